theorem dJ3_checkIndex_8e157_0 : decode cJ3_checkIndex_8e157 0 = .ok (.iload_n 0, 1) := by decide +kernel
theorem dJ3_checkIndex_8e157_1 : decode cJ3_checkIndex_8e157 1 = .ok (.ifCond .lt 8, 3) := by decide +kernel
theorem dJ3_checkIndex_8e157_4 : decode cJ3_checkIndex_8e157 4 = .ok (.iload_n 0, 1) := by decide +kernel
theorem dJ3_checkIndex_8e157_5 : decode cJ3_checkIndex_8e157 5 = .ok (.iload_n 1, 1) := by decide +kernel
theorem dJ3_checkIndex_8e157_6 : decode cJ3_checkIndex_8e157 6 = .ok (.if_icmp .lt 10, 3) := by decide +kernel
theorem dJ3_checkIndex_8e157_9 : decode cJ3_checkIndex_8e157 9 = .ok (.aload_n 2, 1) := by decide +kernel
theorem dJ3_checkIndex_8e157_10 : decode cJ3_checkIndex_8e157 10 = .ok (.iload_n 0, 1) := by decide +kernel
theorem dJ3_checkIndex_8e157_11 : decode cJ3_checkIndex_8e157 11 = .ok (.iload_n 1, 1) := by decide +kernel
theorem dJ3_checkIndex_8e157_12 : decode cJ3_checkIndex_8e157 12 = .ok (.invokestatic 95, 3) := by decide +kernel
theorem dJ3_checkIndex_8e157_15 : decode cJ3_checkIndex_8e157 15 = .ok (.athrow, 1) := by decide +kernel
theorem dJ3_checkIndex_8e157_16 : decode cJ3_checkIndex_8e157 16 = .ok (.iload_n 0, 1) := by decide +kernel
theorem dJ3_checkIndex_8e157_17 : decode cJ3_checkIndex_8e157 17 = .ok (.ireturn, 1) := by decide +kernel
theorem dJ15_checkIndex_7cf53_0 : decode cJ15_checkIndex_7cf53 0 = .ok (.iload_n 0, 1) := by decide +kernel
theorem dJ15_checkIndex_7cf53_1 : decode cJ15_checkIndex_7cf53 1 = .ok (.iload_n 1, 1) := by decide +kernel
theorem dJ15_checkIndex_7cf53_2 : decode cJ15_checkIndex_7cf53 2 = .ok (.aconst_null, 1) := by decide +kernel
theorem dJ15_checkIndex_7cf53_3 : decode cJ15_checkIndex_7cf53 3 = .ok (.invokestatic 105, 3) := by decide +kernel
theorem dJ15_checkIndex_7cf53_6 : decode cJ15_checkIndex_7cf53 6 = .ok (.ireturn, 1) := by decide +kernel
theorem dJ6_bitCount_0f7a4_0 : decode cJ6_bitCount_0f7a4 0 = .ok (.iload_n 0, 1) := by decide +kernel
theorem dJ6_bitCount_0f7a4_1 : decode cJ6_bitCount_0f7a4 1 = .ok (.iload_n 0, 1) := by decide +kernel
theorem dJ6_bitCount_0f7a4_2 : decode cJ6_bitCount_0f7a4 2 = .ok (.iconst 1, 1) := by decide +kernel
theorem dJ6_bitCount_0f7a4_3 : decode cJ6_bitCount_0f7a4 3 = .ok (.iushr, 1) := by decide +kernel
theorem dJ6_bitCount_0f7a4_4 : decode cJ6_bitCount_0f7a4 4 = .ok (.ldc_w 265, 3) := by decide +kernel
theorem dJ6_bitCount_0f7a4_7 : decode cJ6_bitCount_0f7a4 7 = .ok (.iand, 1) := by decide +kernel
theorem dJ6_bitCount_0f7a4_8 : decode cJ6_bitCount_0f7a4 8 = .ok (.isub, 1) := by decide +kernel
theorem dJ6_bitCount_0f7a4_9 : decode cJ6_bitCount_0f7a4 9 = .ok (.istore_n 0, 1) := by decide +kernel
theorem dJ6_bitCount_0f7a4_10 : decode cJ6_bitCount_0f7a4 10 = .ok (.iload_n 0, 1) := by decide +kernel
theorem dJ6_bitCount_0f7a4_11 : decode cJ6_bitCount_0f7a4 11 = .ok (.ldc_w 266, 3) := by decide +kernel
theorem dJ6_bitCount_0f7a4_14 : decode cJ6_bitCount_0f7a4 14 = .ok (.iand, 1) := by decide +kernel
theorem dJ6_bitCount_0f7a4_15 : decode cJ6_bitCount_0f7a4 15 = .ok (.iload_n 0, 1) := by decide +kernel
theorem dJ6_bitCount_0f7a4_16 : decode cJ6_bitCount_0f7a4 16 = .ok (.iconst 2, 1) := by decide +kernel
theorem dJ6_bitCount_0f7a4_17 : decode cJ6_bitCount_0f7a4 17 = .ok (.iushr, 1) := by decide +kernel
theorem dJ6_bitCount_0f7a4_18 : decode cJ6_bitCount_0f7a4 18 = .ok (.ldc_w 266, 3) := by decide +kernel
theorem dJ6_bitCount_0f7a4_21 : decode cJ6_bitCount_0f7a4 21 = .ok (.iand, 1) := by decide +kernel
theorem dJ6_bitCount_0f7a4_22 : decode cJ6_bitCount_0f7a4 22 = .ok (.iadd, 1) := by decide +kernel
theorem dJ6_bitCount_0f7a4_23 : decode cJ6_bitCount_0f7a4 23 = .ok (.istore_n 0, 1) := by decide +kernel
theorem dJ6_bitCount_0f7a4_24 : decode cJ6_bitCount_0f7a4 24 = .ok (.iload_n 0, 1) := by decide +kernel
theorem dJ6_bitCount_0f7a4_25 : decode cJ6_bitCount_0f7a4 25 = .ok (.iload_n 0, 1) := by decide +kernel
theorem dJ6_bitCount_0f7a4_26 : decode cJ6_bitCount_0f7a4 26 = .ok (.iconst 4, 1) := by decide +kernel
theorem dJ6_bitCount_0f7a4_27 : decode cJ6_bitCount_0f7a4 27 = .ok (.iushr, 1) := by decide +kernel
theorem dJ6_bitCount_0f7a4_28 : decode cJ6_bitCount_0f7a4 28 = .ok (.iadd, 1) := by decide +kernel
theorem dJ6_bitCount_0f7a4_29 : decode cJ6_bitCount_0f7a4 29 = .ok (.ldc_w 267, 3) := by decide +kernel
theorem dJ6_bitCount_0f7a4_32 : decode cJ6_bitCount_0f7a4 32 = .ok (.iand, 1) := by decide +kernel
theorem dJ6_bitCount_0f7a4_33 : decode cJ6_bitCount_0f7a4 33 = .ok (.istore_n 0, 1) := by decide +kernel
theorem dJ6_bitCount_0f7a4_34 : decode cJ6_bitCount_0f7a4 34 = .ok (.iload_n 0, 1) := by decide +kernel
theorem dJ6_bitCount_0f7a4_35 : decode cJ6_bitCount_0f7a4 35 = .ok (.iload_n 0, 1) := by decide +kernel
theorem dJ6_bitCount_0f7a4_36 : decode cJ6_bitCount_0f7a4 36 = .ok (.bipush 8, 2) := by decide +kernel
theorem dJ6_bitCount_0f7a4_38 : decode cJ6_bitCount_0f7a4 38 = .ok (.iushr, 1) := by decide +kernel
theorem dJ6_bitCount_0f7a4_39 : decode cJ6_bitCount_0f7a4 39 = .ok (.iadd, 1) := by decide +kernel
theorem dJ6_bitCount_0f7a4_40 : decode cJ6_bitCount_0f7a4 40 = .ok (.istore_n 0, 1) := by decide +kernel
theorem dJ6_bitCount_0f7a4_41 : decode cJ6_bitCount_0f7a4 41 = .ok (.iload_n 0, 1) := by decide +kernel
theorem dJ6_bitCount_0f7a4_42 : decode cJ6_bitCount_0f7a4 42 = .ok (.iload_n 0, 1) := by decide +kernel
theorem dJ6_bitCount_0f7a4_43 : decode cJ6_bitCount_0f7a4 43 = .ok (.bipush 16, 2) := by decide +kernel
theorem dJ6_bitCount_0f7a4_45 : decode cJ6_bitCount_0f7a4 45 = .ok (.iushr, 1) := by decide +kernel
theorem dJ6_bitCount_0f7a4_46 : decode cJ6_bitCount_0f7a4 46 = .ok (.iadd, 1) := by decide +kernel
theorem dJ6_bitCount_0f7a4_47 : decode cJ6_bitCount_0f7a4 47 = .ok (.istore_n 0, 1) := by decide +kernel
theorem dJ6_bitCount_0f7a4_48 : decode cJ6_bitCount_0f7a4 48 = .ok (.iload_n 0, 1) := by decide +kernel
theorem dJ6_bitCount_0f7a4_49 : decode cJ6_bitCount_0f7a4 49 = .ok (.bipush 63, 2) := by decide +kernel
theorem dJ6_bitCount_0f7a4_51 : decode cJ6_bitCount_0f7a4 51 = .ok (.iand, 1) := by decide +kernel
theorem dJ6_bitCount_0f7a4_52 : decode cJ6_bitCount_0f7a4 52 = .ok (.ireturn, 1) := by decide +kernel
theorem dJ7_copyOf_6403c_0 : decode cJ7_copyOf_6403c 0 = .ok (.aload_n 2, 1) := by decide +kernel
theorem dJ7_copyOf_6403c_1 : decode cJ7_copyOf_6403c 1 = .ok (.ldc 110, 2) := by decide +kernel
theorem dJ7_copyOf_6403c_3 : decode cJ7_copyOf_6403c 3 = .ok (.if_acmp .ne 10, 3) := by decide +kernel
theorem dJ7_copyOf_6403c_6 : decode cJ7_copyOf_6403c 6 = .ok (.iload_n 1, 1) := by decide +kernel
theorem dJ7_copyOf_6403c_7 : decode cJ7_copyOf_6403c 7 = .ok (.anewarray 2, 3) := by decide +kernel
theorem dJ7_copyOf_6403c_10 : decode cJ7_copyOf_6403c 10 = .ok (.goto 14, 3) := by decide +kernel
theorem dJ7_copyOf_6403c_13 : decode cJ7_copyOf_6403c 13 = .ok (.aload_n 2, 1) := by decide +kernel
theorem dJ7_copyOf_6403c_14 : decode cJ7_copyOf_6403c 14 = .ok (.invokevirtual 90, 3) := by decide +kernel
theorem dJ7_copyOf_6403c_17 : decode cJ7_copyOf_6403c 17 = .ok (.iload_n 1, 1) := by decide +kernel
theorem dJ7_copyOf_6403c_18 : decode cJ7_copyOf_6403c 18 = .ok (.invokestatic 95, 3) := by decide +kernel
theorem dJ7_copyOf_6403c_21 : decode cJ7_copyOf_6403c 21 = .ok (.checkcast 110, 3) := by decide +kernel
theorem dJ7_copyOf_6403c_24 : decode cJ7_copyOf_6403c 24 = .ok (.astore_n 3, 1) := by decide +kernel
theorem dJ7_copyOf_6403c_25 : decode cJ7_copyOf_6403c 25 = .ok (.aload_n 0, 1) := by decide +kernel
theorem dJ7_copyOf_6403c_26 : decode cJ7_copyOf_6403c 26 = .ok (.iconst 0, 1) := by decide +kernel
theorem dJ7_copyOf_6403c_27 : decode cJ7_copyOf_6403c 27 = .ok (.aload_n 3, 1) := by decide +kernel
theorem dJ7_copyOf_6403c_28 : decode cJ7_copyOf_6403c 28 = .ok (.iconst 0, 1) := by decide +kernel
theorem dJ7_copyOf_6403c_29 : decode cJ7_copyOf_6403c 29 = .ok (.aload_n 0, 1) := by decide +kernel
theorem dJ7_copyOf_6403c_30 : decode cJ7_copyOf_6403c 30 = .ok (.arraylength, 1) := by decide +kernel
theorem dJ7_copyOf_6403c_31 : decode cJ7_copyOf_6403c 31 = .ok (.iload_n 1, 1) := by decide +kernel
theorem dJ7_copyOf_6403c_32 : decode cJ7_copyOf_6403c 32 = .ok (.invokestatic 304, 3) := by decide +kernel
theorem dJ7_copyOf_6403c_35 : decode cJ7_copyOf_6403c 35 = .ok (.invokestatic 150, 3) := by decide +kernel
theorem dJ7_copyOf_6403c_38 : decode cJ7_copyOf_6403c 38 = .ok (.aload_n 3, 1) := by decide +kernel
theorem dJ7_copyOf_6403c_39 : decode cJ7_copyOf_6403c 39 = .ok (.areturn, 1) := by decide +kernel
theorem dJ7_copyOf_1904c_0 : decode cJ7_copyOf_1904c 0 = .ok (.aload_n 0, 1) := by decide +kernel
theorem dJ7_copyOf_1904c_1 : decode cJ7_copyOf_1904c 1 = .ok (.iload_n 1, 1) := by decide +kernel
theorem dJ7_copyOf_1904c_2 : decode cJ7_copyOf_1904c 2 = .ok (.aload_n 0, 1) := by decide +kernel
theorem dJ7_copyOf_1904c_3 : decode cJ7_copyOf_1904c 3 = .ok (.invokevirtual 86, 3) := by decide +kernel
theorem dJ7_copyOf_1904c_6 : decode cJ7_copyOf_1904c 6 = .ok (.invokestatic 300, 3) := by decide +kernel
theorem dJ7_copyOf_1904c_9 : decode cJ7_copyOf_1904c 9 = .ok (.areturn, 1) := by decide +kernel
theorem dJ8_newLength_cabcc_0 : decode cJ8_newLength_cabcc 0 = .ok (.iload_n 0, 1) := by decide +kernel
theorem dJ8_newLength_cabcc_1 : decode cJ8_newLength_cabcc 1 = .ok (.iload_n 1, 1) := by decide +kernel
theorem dJ8_newLength_cabcc_2 : decode cJ8_newLength_cabcc 2 = .ok (.iload_n 2, 1) := by decide +kernel
theorem dJ8_newLength_cabcc_3 : decode cJ8_newLength_cabcc 3 = .ok (.invokestatic 194, 3) := by decide +kernel
theorem dJ8_newLength_cabcc_6 : decode cJ8_newLength_cabcc 6 = .ok (.iadd, 1) := by decide +kernel
theorem dJ8_newLength_cabcc_7 : decode cJ8_newLength_cabcc 7 = .ok (.istore_n 3, 1) := by decide +kernel
theorem dJ8_newLength_cabcc_8 : decode cJ8_newLength_cabcc 8 = .ok (.iconst 0, 1) := by decide +kernel
theorem dJ8_newLength_cabcc_9 : decode cJ8_newLength_cabcc 9 = .ok (.iload_n 3, 1) := by decide +kernel
theorem dJ8_newLength_cabcc_10 : decode cJ8_newLength_cabcc 10 = .ok (.if_icmp .ge 11, 3) := by decide +kernel
theorem dJ8_newLength_cabcc_13 : decode cJ8_newLength_cabcc 13 = .ok (.iload_n 3, 1) := by decide +kernel
theorem dJ8_newLength_cabcc_14 : decode cJ8_newLength_cabcc 14 = .ok (.ldc 200, 2) := by decide +kernel
theorem dJ8_newLength_cabcc_16 : decode cJ8_newLength_cabcc 16 = .ok (.if_icmp .gt 5, 3) := by decide +kernel
theorem dJ8_newLength_cabcc_19 : decode cJ8_newLength_cabcc 19 = .ok (.iload_n 3, 1) := by decide +kernel
theorem dJ8_newLength_cabcc_20 : decode cJ8_newLength_cabcc 20 = .ok (.ireturn, 1) := by decide +kernel
theorem dJ8_newLength_cabcc_21 : decode cJ8_newLength_cabcc 21 = .ok (.iload_n 0, 1) := by decide +kernel
theorem dJ8_newLength_cabcc_22 : decode cJ8_newLength_cabcc 22 = .ok (.iload_n 1, 1) := by decide +kernel
theorem dJ8_newLength_cabcc_23 : decode cJ8_newLength_cabcc 23 = .ok (.invokestatic 201, 3) := by decide +kernel
theorem dJ8_newLength_cabcc_26 : decode cJ8_newLength_cabcc 26 = .ok (.ireturn, 1) := by decide +kernel
theorem dJx4a65c_grow_92f84_0 : decode cJx4a65c_grow_92f84 0 = .ok (.aload_n 0, 1) := by decide +kernel
theorem dJx4a65c_grow_92f84_1 : decode cJx4a65c_grow_92f84 1 = .ok (.getfield 9, 3) := by decide +kernel
theorem dJx4a65c_grow_92f84_4 : decode cJx4a65c_grow_92f84 4 = .ok (.arraylength, 1) := by decide +kernel
theorem dJx4a65c_grow_92f84_5 : decode cJx4a65c_grow_92f84 5 = .ok (.istore_n 2, 1) := by decide +kernel
theorem dJx4a65c_grow_92f84_6 : decode cJx4a65c_grow_92f84 6 = .ok (.iload_n 2, 1) := by decide +kernel
theorem dJx4a65c_grow_92f84_7 : decode cJx4a65c_grow_92f84 7 = .ok (.ifCond .gt 13, 3) := by decide +kernel
theorem dJx4a65c_grow_92f84_10 : decode cJx4a65c_grow_92f84 10 = .ok (.aload_n 0, 1) := by decide +kernel
theorem dJx4a65c_grow_92f84_11 : decode cJx4a65c_grow_92f84 11 = .ok (.getfield 9, 3) := by decide +kernel
theorem dJx4a65c_grow_92f84_14 : decode cJx4a65c_grow_92f84 14 = .ok (.getstatic 39, 3) := by decide +kernel
theorem dJx4a65c_grow_92f84_17 : decode cJx4a65c_grow_92f84 17 = .ok (.if_acmp .eq 28, 3) := by decide +kernel
theorem dJx4a65c_grow_92f84_20 : decode cJx4a65c_grow_92f84 20 = .ok (.iload_n 2, 1) := by decide +kernel
theorem dJx4a65c_grow_92f84_21 : decode cJx4a65c_grow_92f84 21 = .ok (.iload_n 1, 1) := by decide +kernel
theorem dJx4a65c_grow_92f84_22 : decode cJx4a65c_grow_92f84 22 = .ok (.iload_n 2, 1) := by decide +kernel
theorem dJx4a65c_grow_92f84_23 : decode cJx4a65c_grow_92f84 23 = .ok (.isub, 1) := by decide +kernel
theorem dJx4a65c_grow_92f84_24 : decode cJx4a65c_grow_92f84 24 = .ok (.iload_n 2, 1) := by decide +kernel
theorem dJx4a65c_grow_92f84_25 : decode cJx4a65c_grow_92f84 25 = .ok (.iconst 1, 1) := by decide +kernel
theorem dJx4a65c_grow_92f84_26 : decode cJx4a65c_grow_92f84 26 = .ok (.ishr, 1) := by decide +kernel
theorem dJx4a65c_grow_92f84_27 : decode cJx4a65c_grow_92f84 27 = .ok (.invokestatic 73, 3) := by decide +kernel
theorem dJx4a65c_grow_92f84_30 : decode cJx4a65c_grow_92f84 30 = .ok (.istore_n 3, 1) := by decide +kernel
theorem dJx4a65c_grow_92f84_31 : decode cJx4a65c_grow_92f84 31 = .ok (.aload_n 0, 1) := by decide +kernel
theorem dJx4a65c_grow_92f84_32 : decode cJx4a65c_grow_92f84 32 = .ok (.aload_n 0, 1) := by decide +kernel
theorem dJx4a65c_grow_92f84_33 : decode cJx4a65c_grow_92f84 33 = .ok (.getfield 9, 3) := by decide +kernel
theorem dJx4a65c_grow_92f84_36 : decode cJx4a65c_grow_92f84 36 = .ok (.iload_n 3, 1) := by decide +kernel
theorem dJx4a65c_grow_92f84_37 : decode cJx4a65c_grow_92f84 37 = .ok (.invokestatic 66, 3) := by decide +kernel
theorem dJx4a65c_grow_92f84_40 : decode cJx4a65c_grow_92f84 40 = .ok (.dup_x1, 1) := by decide +kernel
theorem dJx4a65c_grow_92f84_41 : decode cJx4a65c_grow_92f84 41 = .ok (.putfield 9, 3) := by decide +kernel
theorem dJx4a65c_grow_92f84_44 : decode cJx4a65c_grow_92f84 44 = .ok (.areturn, 1) := by decide +kernel
theorem dJx4a65c_grow_92f84_45 : decode cJx4a65c_grow_92f84 45 = .ok (.aload_n 0, 1) := by decide +kernel
theorem dJx4a65c_grow_92f84_46 : decode cJx4a65c_grow_92f84 46 = .ok (.bipush 10, 2) := by decide +kernel
theorem dJx4a65c_grow_92f84_48 : decode cJx4a65c_grow_92f84 48 = .ok (.iload_n 1, 1) := by decide +kernel
theorem dJx4a65c_grow_92f84_49 : decode cJx4a65c_grow_92f84 49 = .ok (.invokestatic 79, 3) := by decide +kernel
theorem dJx4a65c_grow_92f84_52 : decode cJx4a65c_grow_92f84 52 = .ok (.anewarray 7, 3) := by decide +kernel
theorem dJx4a65c_grow_92f84_55 : decode cJx4a65c_grow_92f84 55 = .ok (.dup_x1, 1) := by decide +kernel
theorem dJx4a65c_grow_92f84_56 : decode cJx4a65c_grow_92f84 56 = .ok (.putfield 9, 3) := by decide +kernel
theorem dJx4a65c_grow_92f84_59 : decode cJx4a65c_grow_92f84 59 = .ok (.areturn, 1) := by decide +kernel
theorem dJx4a65c_grow_d5877_0 : decode cJx4a65c_grow_d5877 0 = .ok (.aload_n 0, 1) := by decide +kernel
theorem dJx4a65c_grow_d5877_1 : decode cJx4a65c_grow_d5877 1 = .ok (.aload_n 0, 1) := by decide +kernel
theorem dJx4a65c_grow_d5877_2 : decode cJx4a65c_grow_d5877 2 = .ok (.getfield 48, 3) := by decide +kernel
theorem dJx4a65c_grow_d5877_5 : decode cJx4a65c_grow_d5877 5 = .ok (.iconst 1, 1) := by decide +kernel
theorem dJx4a65c_grow_d5877_6 : decode cJx4a65c_grow_d5877 6 = .ok (.iadd, 1) := by decide +kernel
theorem dJx4a65c_grow_d5877_7 : decode cJx4a65c_grow_d5877 7 = .ok (.invokevirtual 69, 3) := by decide +kernel
theorem dJx4a65c_grow_d5877_10 : decode cJx4a65c_grow_d5877 10 = .ok (.areturn, 1) := by decide +kernel
theorem dJx4a65c_add_72be8_0 : decode cJx4a65c_add_72be8 0 = .ok (.iload_n 3, 1) := by decide +kernel
theorem dJx4a65c_add_72be8_1 : decode cJx4a65c_add_72be8 1 = .ok (.aload_n 2, 1) := by decide +kernel
theorem dJx4a65c_add_72be8_2 : decode cJx4a65c_add_72be8 2 = .ok (.arraylength, 1) := by decide +kernel
theorem dJx4a65c_add_72be8_3 : decode cJx4a65c_add_72be8 3 = .ok (.if_icmp .ne 8, 3) := by decide +kernel
theorem dJx4a65c_add_72be8_6 : decode cJx4a65c_add_72be8 6 = .ok (.aload_n 0, 1) := by decide +kernel
theorem dJx4a65c_add_72be8_7 : decode cJx4a65c_add_72be8 7 = .ok (.invokevirtual 129, 3) := by decide +kernel
theorem dJx4a65c_add_72be8_10 : decode cJx4a65c_add_72be8 10 = .ok (.astore_n 2, 1) := by decide +kernel
theorem dJx4a65c_add_72be8_11 : decode cJx4a65c_add_72be8 11 = .ok (.aload_n 2, 1) := by decide +kernel
theorem dJx4a65c_add_72be8_12 : decode cJx4a65c_add_72be8 12 = .ok (.iload_n 3, 1) := by decide +kernel
theorem dJx4a65c_add_72be8_13 : decode cJx4a65c_add_72be8 13 = .ok (.aload_n 1, 1) := by decide +kernel
theorem dJx4a65c_add_72be8_14 : decode cJx4a65c_add_72be8 14 = .ok (.aastore, 1) := by decide +kernel
theorem dJx4a65c_add_72be8_15 : decode cJx4a65c_add_72be8 15 = .ok (.aload_n 0, 1) := by decide +kernel
theorem dJx4a65c_add_72be8_16 : decode cJx4a65c_add_72be8 16 = .ok (.iload_n 3, 1) := by decide +kernel
theorem dJx4a65c_add_72be8_17 : decode cJx4a65c_add_72be8 17 = .ok (.iconst 1, 1) := by decide +kernel
theorem dJx4a65c_add_72be8_18 : decode cJx4a65c_add_72be8 18 = .ok (.iadd, 1) := by decide +kernel
theorem dJx4a65c_add_72be8_19 : decode cJx4a65c_add_72be8 19 = .ok (.putfield 48, 3) := by decide +kernel
theorem dJx4a65c_add_72be8_22 : decode cJx4a65c_add_72be8 22 = .ok (.return_, 1) := by decide +kernel
theorem dJx4a65c_add_9ea2d_0 : decode cJx4a65c_add_9ea2d 0 = .ok (.aload_n 0, 1) := by decide +kernel
theorem dJx4a65c_add_9ea2d_1 : decode cJx4a65c_add_9ea2d 1 = .ok (.dup, 1) := by decide +kernel
theorem dJx4a65c_add_9ea2d_2 : decode cJx4a65c_add_9ea2d 2 = .ok (.getfield 63, 3) := by decide +kernel
theorem dJx4a65c_add_9ea2d_5 : decode cJx4a65c_add_9ea2d 5 = .ok (.iconst 1, 1) := by decide +kernel
theorem dJx4a65c_add_9ea2d_6 : decode cJx4a65c_add_9ea2d 6 = .ok (.iadd, 1) := by decide +kernel
theorem dJx4a65c_add_9ea2d_7 : decode cJx4a65c_add_9ea2d 7 = .ok (.putfield 63, 3) := by decide +kernel
theorem dJx4a65c_add_9ea2d_10 : decode cJx4a65c_add_9ea2d 10 = .ok (.aload_n 0, 1) := by decide +kernel
theorem dJx4a65c_add_9ea2d_11 : decode cJx4a65c_add_9ea2d 11 = .ok (.aload_n 1, 1) := by decide +kernel
theorem dJx4a65c_add_9ea2d_12 : decode cJx4a65c_add_9ea2d 12 = .ok (.aload_n 0, 1) := by decide +kernel
theorem dJx4a65c_add_9ea2d_13 : decode cJx4a65c_add_9ea2d 13 = .ok (.getfield 9, 3) := by decide +kernel
theorem dJx4a65c_add_9ea2d_16 : decode cJx4a65c_add_9ea2d 16 = .ok (.aload_n 0, 1) := by decide +kernel
theorem dJx4a65c_add_9ea2d_17 : decode cJx4a65c_add_9ea2d 17 = .ok (.getfield 48, 3) := by decide +kernel
theorem dJx4a65c_add_9ea2d_20 : decode cJx4a65c_add_9ea2d 20 = .ok (.invokevirtual 131, 3) := by decide +kernel
theorem dJx4a65c_add_9ea2d_23 : decode cJx4a65c_add_9ea2d 23 = .ok (.iconst 1, 1) := by decide +kernel
theorem dJx4a65c_add_9ea2d_24 : decode cJx4a65c_add_9ea2d 24 = .ok (.ireturn, 1) := by decide +kernel
theorem dJx4a65c_elementData_915e3_0 : decode cJx4a65c_elementData_915e3 0 = .ok (.aload_n 0, 1) := by decide +kernel
theorem dJx4a65c_elementData_915e3_1 : decode cJx4a65c_elementData_915e3 1 = .ok (.getfield 9, 3) := by decide +kernel
theorem dJx4a65c_elementData_915e3_4 : decode cJx4a65c_elementData_915e3 4 = .ok (.iload_n 1, 1) := by decide +kernel
theorem dJx4a65c_elementData_915e3_5 : decode cJx4a65c_elementData_915e3 5 = .ok (.aaload, 1) := by decide +kernel
theorem dJx4a65c_elementData_915e3_6 : decode cJx4a65c_elementData_915e3 6 = .ok (.areturn, 1) := by decide +kernel
theorem dJx4a65c_get_915e3_0 : decode cJx4a65c_get_915e3 0 = .ok (.iload_n 1, 1) := by decide +kernel
theorem dJx4a65c_get_915e3_1 : decode cJx4a65c_get_915e3 1 = .ok (.aload_n 0, 1) := by decide +kernel
theorem dJx4a65c_get_915e3_2 : decode cJx4a65c_get_915e3 2 = .ok (.getfield 48, 3) := by decide +kernel
theorem dJx4a65c_get_915e3_5 : decode cJx4a65c_get_915e3 5 = .ok (.invokestatic 118, 3) := by decide +kernel
theorem dJx4a65c_get_915e3_8 : decode cJx4a65c_get_915e3 8 = .ok (.pop, 1) := by decide +kernel
theorem dJx4a65c_get_915e3_9 : decode cJx4a65c_get_915e3 9 = .ok (.aload_n 0, 1) := by decide +kernel
theorem dJx4a65c_get_915e3_10 : decode cJx4a65c_get_915e3 10 = .ok (.iload_n 1, 1) := by decide +kernel
theorem dJx4a65c_get_915e3_11 : decode cJx4a65c_get_915e3 11 = .ok (.invokevirtual 123, 3) := by decide +kernel
theorem dJx4a65c_get_915e3_14 : decode cJx4a65c_get_915e3 14 = .ok (.areturn, 1) := by decide +kernel
theorem dJxa1e45_init_da8c8_0 : decode cJxa1e45_init_da8c8 0 = .ok (.aload_n 0, 1) := by decide +kernel
theorem dJxa1e45_init_da8c8_1 : decode cJxa1e45_init_da8c8 1 = .ok (.invokespecial 1, 3) := by decide +kernel
theorem dJxa1e45_init_da8c8_4 : decode cJxa1e45_init_da8c8 4 = .ok (.return_, 1) := by decide +kernel
theorem dJxc12de_init_da8c8_0 : decode cJxc12de_init_da8c8 0 = .ok (.aload_n 0, 1) := by decide +kernel
theorem dJxc12de_init_da8c8_1 : decode cJxc12de_init_da8c8 1 = .ok (.invokespecial 1, 3) := by decide +kernel
theorem dJxc12de_init_da8c8_4 : decode cJxc12de_init_da8c8 4 = .ok (.aload_n 0, 1) := by decide +kernel
theorem dJxc12de_init_da8c8_5 : decode cJxc12de_init_da8c8 5 = .ok (.iconst 0, 1) := by decide +kernel
theorem dJxc12de_init_da8c8_6 : decode cJxc12de_init_da8c8 6 = .ok (.putfield 7, 3) := by decide +kernel
theorem dJxc12de_init_da8c8_9 : decode cJxc12de_init_da8c8 9 = .ok (.return_, 1) := by decide +kernel
theorem dJx4a65c_init_da8c8_0 : decode cJx4a65c_init_da8c8 0 = .ok (.aload_n 0, 1) := by decide +kernel
theorem dJx4a65c_init_da8c8_1 : decode cJx4a65c_init_da8c8 1 = .ok (.invokespecial 1, 3) := by decide +kernel
theorem dJx4a65c_init_da8c8_4 : decode cJx4a65c_init_da8c8 4 = .ok (.aload_n 0, 1) := by decide +kernel
theorem dJx4a65c_init_da8c8_5 : decode cJx4a65c_init_da8c8 5 = .ok (.getstatic 39, 3) := by decide +kernel
theorem dJx4a65c_init_da8c8_8 : decode cJx4a65c_init_da8c8 8 = .ok (.putfield 9, 3) := by decide +kernel
theorem dJx4a65c_init_da8c8_11 : decode cJx4a65c_init_da8c8 11 = .ok (.return_, 1) := by decide +kernel
theorem dJx4a65c_isEmpty_aae02_0 : decode cJx4a65c_isEmpty_aae02 0 = .ok (.aload_n 0, 1) := by decide +kernel
theorem dJx4a65c_isEmpty_aae02_1 : decode cJx4a65c_isEmpty_aae02 1 = .ok (.getfield 48, 3) := by decide +kernel
theorem dJx4a65c_isEmpty_aae02_4 : decode cJx4a65c_isEmpty_aae02 4 = .ok (.ifCond .ne 7, 3) := by decide +kernel
theorem dJx4a65c_isEmpty_aae02_7 : decode cJx4a65c_isEmpty_aae02 7 = .ok (.iconst 1, 1) := by decide +kernel
theorem dJx4a65c_isEmpty_aae02_8 : decode cJx4a65c_isEmpty_aae02 8 = .ok (.goto 4, 3) := by decide +kernel
theorem dJx4a65c_isEmpty_aae02_11 : decode cJx4a65c_isEmpty_aae02 11 = .ok (.iconst 0, 1) := by decide +kernel
theorem dJx4a65c_isEmpty_aae02_12 : decode cJx4a65c_isEmpty_aae02 12 = .ok (.ireturn, 1) := by decide +kernel
theorem dJx4a65c_size_8abf5_0 : decode cJx4a65c_size_8abf5 0 = .ok (.aload_n 0, 1) := by decide +kernel
theorem dJx4a65c_size_8abf5_1 : decode cJx4a65c_size_8abf5 1 = .ok (.getfield 48, 3) := by decide +kernel
theorem dJx4a65c_size_8abf5_4 : decode cJx4a65c_size_8abf5 4 = .ok (.ireturn, 1) := by decide +kernel
theorem dX0_add_0 : decode cX0_add 0 = .ok (.aload_n 0, 1) := by decide +kernel
theorem dX0_add_1 : decode cX0_add 1 = .ok (.getfield 30, 3) := by decide +kernel
theorem dX0_add_4 : decode cX0_add 4 = .ok (.bipush 10, 2) := by decide +kernel
theorem dX0_add_6 : decode cX0_add 6 = .ok (.if_icmp .lt 5, 3) := by decide +kernel
theorem dX0_add_9 : decode cX0_add 9 = .ok (.iconst 0, 1) := by decide +kernel
theorem dX0_add_10 : decode cX0_add 10 = .ok (.ireturn, 1) := by decide +kernel
theorem dX0_add_11 : decode cX0_add 11 = .ok (.aload_n 0, 1) := by decide +kernel
theorem dX0_add_12 : decode cX0_add 12 = .ok (.getfield 9, 3) := by decide +kernel
theorem dX0_add_15 : decode cX0_add 15 = .ok (.aload_n 0, 1) := by decide +kernel
theorem dX0_add_16 : decode cX0_add 16 = .ok (.getfield 30, 3) := by decide +kernel
theorem dX0_add_19 : decode cX0_add 19 = .ok (.iload_n 1, 1) := by decide +kernel
theorem dX0_add_20 : decode cX0_add 20 = .ok (.iastore, 1) := by decide +kernel
theorem dX0_add_21 : decode cX0_add 21 = .ok (.aload_n 0, 1) := by decide +kernel
theorem dX0_add_22 : decode cX0_add 22 = .ok (.getfield 15, 3) := by decide +kernel
theorem dX0_add_25 : decode cX0_add 25 = .ok (.aload_n 0, 1) := by decide +kernel
theorem dX0_add_26 : decode cX0_add 26 = .ok (.getfield 30, 3) := by decide +kernel
theorem dX0_add_29 : decode cX0_add 29 = .ok (.iload_n 2, 1) := by decide +kernel
theorem dX0_add_30 : decode cX0_add 30 = .ok (.iastore, 1) := by decide +kernel
theorem dX0_add_31 : decode cX0_add 31 = .ok (.aload_n 0, 1) := by decide +kernel
theorem dX0_add_32 : decode cX0_add 32 = .ok (.getfield 18, 3) := by decide +kernel
theorem dX0_add_35 : decode cX0_add 35 = .ok (.aload_n 0, 1) := by decide +kernel
theorem dX0_add_36 : decode cX0_add 36 = .ok (.getfield 30, 3) := by decide +kernel
theorem dX0_add_39 : decode cX0_add 39 = .ok (.iload_n 3, 1) := by decide +kernel
theorem dX0_add_40 : decode cX0_add 40 = .ok (.iastore, 1) := by decide +kernel
theorem dX0_add_41 : decode cX0_add 41 = .ok (.aload_n 0, 1) := by decide +kernel
theorem dX0_add_42 : decode cX0_add 42 = .ok (.getfield 21, 3) := by decide +kernel
theorem dX0_add_45 : decode cX0_add 45 = .ok (.aload_n 0, 1) := by decide +kernel
theorem dX0_add_46 : decode cX0_add 46 = .ok (.getfield 30, 3) := by decide +kernel
theorem dX0_add_49 : decode cX0_add 49 = .ok (.iload 4, 2) := by decide +kernel
theorem dX0_add_51 : decode cX0_add 51 = .ok (.iastore, 1) := by decide +kernel
theorem dX0_add_52 : decode cX0_add 52 = .ok (.aload_n 0, 1) := by decide +kernel
theorem dX0_add_53 : decode cX0_add 53 = .ok (.getfield 27, 3) := by decide +kernel
theorem dX0_add_56 : decode cX0_add 56 = .ok (.aload_n 0, 1) := by decide +kernel
theorem dX0_add_57 : decode cX0_add 57 = .ok (.getfield 30, 3) := by decide +kernel
theorem dX0_add_60 : decode cX0_add 60 = .ok (.iload_n 1, 1) := by decide +kernel
theorem dX0_add_61 : decode cX0_add 61 = .ok (.iastore, 1) := by decide +kernel
theorem dX0_add_62 : decode cX0_add 62 = .ok (.aload_n 0, 1) := by decide +kernel
theorem dX0_add_63 : decode cX0_add 63 = .ok (.dup, 1) := by decide +kernel
theorem dX0_add_64 : decode cX0_add 64 = .ok (.getfield 38, 3) := by decide +kernel
theorem dX0_add_67 : decode cX0_add 67 = .ok (.iconst 1, 1) := by decide +kernel
theorem dX0_add_68 : decode cX0_add 68 = .ok (.aload_n 0, 1) := by decide +kernel
theorem dX0_add_69 : decode cX0_add 69 = .ok (.getfield 30, 3) := by decide +kernel
theorem dX0_add_72 : decode cX0_add 72 = .ok (.ishl, 1) := by decide +kernel
theorem dX0_add_73 : decode cX0_add 73 = .ok (.ior, 1) := by decide +kernel
theorem dX0_add_74 : decode cX0_add 74 = .ok (.putfield 38, 3) := by decide +kernel
theorem dX0_add_77 : decode cX0_add 77 = .ok (.aload_n 0, 1) := by decide +kernel
theorem dX0_add_78 : decode cX0_add 78 = .ok (.dup, 1) := by decide +kernel
theorem dX0_add_79 : decode cX0_add 79 = .ok (.getfield 30, 3) := by decide +kernel
theorem dX0_add_82 : decode cX0_add 82 = .ok (.iconst 1, 1) := by decide +kernel
theorem dX0_add_83 : decode cX0_add 83 = .ok (.iadd, 1) := by decide +kernel
theorem dX0_add_84 : decode cX0_add 84 = .ok (.putfield 30, 3) := by decide +kernel
theorem dX0_add_87 : decode cX0_add 87 = .ok (.iconst 1, 1) := by decide +kernel
theorem dX0_add_88 : decode cX0_add 88 = .ok (.ireturn, 1) := by decide +kernel
theorem dX0_allSet_0 : decode cX0_allSet 0 = .ok (.iconst 1, 1) := by decide +kernel
theorem dX0_allSet_1 : decode cX0_allSet 1 = .ok (.aload_n 0, 1) := by decide +kernel
theorem dX0_allSet_2 : decode cX0_allSet 2 = .ok (.getfield 30, 3) := by decide +kernel
theorem dX0_allSet_5 : decode cX0_allSet 5 = .ok (.ishl, 1) := by decide +kernel
theorem dX0_allSet_6 : decode cX0_allSet 6 = .ok (.iconst 1, 1) := by decide +kernel
theorem dX0_allSet_7 : decode cX0_allSet 7 = .ok (.isub, 1) := by decide +kernel
theorem dX0_allSet_8 : decode cX0_allSet 8 = .ok (.ireturn, 1) := by decide +kernel
theorem dX11_within_0 : decode cX11_within 0 = .ok (.iload_n 0, 1) := by decide +kernel
theorem dX11_within_1 : decode cX11_within 1 = .ok (.iload_n 1, 1) := by decide +kernel
theorem dX11_within_2 : decode cX11_within 2 = .ok (.if_icmp .lt 12, 3) := by decide +kernel
theorem dX11_within_5 : decode cX11_within 5 = .ok (.iload_n 0, 1) := by decide +kernel
theorem dX11_within_6 : decode cX11_within 6 = .ok (.iload_n 2, 1) := by decide +kernel
theorem dX11_within_7 : decode cX11_within 7 = .ok (.if_icmp .gt 7, 3) := by decide +kernel
theorem dX11_within_10 : decode cX11_within 10 = .ok (.iconst 1, 1) := by decide +kernel
theorem dX11_within_11 : decode cX11_within 11 = .ok (.goto 4, 3) := by decide +kernel
theorem dX11_within_14 : decode cX11_within 14 = .ok (.iconst 0, 1) := by decide +kernel
theorem dX11_within_15 : decode cX11_within 15 = .ok (.ireturn, 1) := by decide +kernel
theorem dX0_has_0 : decode cX0_has 0 = .ok (.iload_n 1, 1) := by decide +kernel
theorem dX0_has_1 : decode cX0_has 1 = .ok (.iconst 0, 1) := by decide +kernel
theorem dX0_has_2 : decode cX0_has 2 = .ok (.aload_n 0, 1) := by decide +kernel
theorem dX0_has_3 : decode cX0_has 3 = .ok (.getfield 30, 3) := by decide +kernel
theorem dX0_has_6 : decode cX0_has 6 = .ok (.iconst 1, 1) := by decide +kernel
theorem dX0_has_7 : decode cX0_has 7 = .ok (.isub, 1) := by decide +kernel
theorem dX0_has_8 : decode cX0_has 8 = .ok (.invokestatic 34, 3) := by decide +kernel
theorem dX0_has_11 : decode cX0_has 11 = .ok (.ireturn, 1) := by decide +kernel
theorem dX0_howManyAtStrength_0 : decode cX0_howManyAtStrength 0 = .ok (.iconst 0, 1) := by decide +kernel
theorem dX0_howManyAtStrength_1 : decode cX0_howManyAtStrength 1 = .ok (.istore_n 1, 1) := by decide +kernel
theorem dX0_howManyAtStrength_2 : decode cX0_howManyAtStrength 2 = .ok (.iconst 0, 1) := by decide +kernel
theorem dX0_howManyAtStrength_3 : decode cX0_howManyAtStrength 3 = .ok (.istore_n 2, 1) := by decide +kernel
theorem dX0_howManyAtStrength_4 : decode cX0_howManyAtStrength 4 = .ok (.iload_n 2, 1) := by decide +kernel
theorem dX0_howManyAtStrength_5 : decode cX0_howManyAtStrength 5 = .ok (.aload_n 0, 1) := by decide +kernel
theorem dX0_howManyAtStrength_6 : decode cX0_howManyAtStrength 6 = .ok (.getfield 30, 3) := by decide +kernel
theorem dX0_howManyAtStrength_9 : decode cX0_howManyAtStrength 9 = .ok (.if_icmp .ge 27, 3) := by decide +kernel
theorem dX0_howManyAtStrength_12 : decode cX0_howManyAtStrength 12 = .ok (.aload_n 0, 1) := by decide +kernel
theorem dX0_howManyAtStrength_13 : decode cX0_howManyAtStrength 13 = .ok (.getfield 27, 3) := by decide +kernel
theorem dX0_howManyAtStrength_16 : decode cX0_howManyAtStrength 16 = .ok (.iload_n 2, 1) := by decide +kernel
theorem dX0_howManyAtStrength_17 : decode cX0_howManyAtStrength 17 = .ok (.iaload, 1) := by decide +kernel
theorem dX0_howManyAtStrength_18 : decode cX0_howManyAtStrength 18 = .ok (.aload_n 0, 1) := by decide +kernel
theorem dX0_howManyAtStrength_19 : decode cX0_howManyAtStrength 19 = .ok (.getfield 9, 3) := by decide +kernel
theorem dX0_howManyAtStrength_22 : decode cX0_howManyAtStrength 22 = .ok (.iload_n 2, 1) := by decide +kernel
theorem dX0_howManyAtStrength_23 : decode cX0_howManyAtStrength 23 = .ok (.iaload, 1) := by decide +kernel
theorem dX0_howManyAtStrength_24 : decode cX0_howManyAtStrength 24 = .ok (.if_icmp .ne 6, 3) := by decide +kernel
theorem dX0_howManyAtStrength_27 : decode cX0_howManyAtStrength 27 = .ok (.iinc 1 1, 3) := by decide +kernel
theorem dX0_howManyAtStrength_30 : decode cX0_howManyAtStrength 30 = .ok (.iinc 2 1, 3) := by decide +kernel
theorem dX0_howManyAtStrength_33 : decode cX0_howManyAtStrength 33 = .ok (.goto (-29), 3) := by decide +kernel
theorem dX0_howManyAtStrength_36 : decode cX0_howManyAtStrength 36 = .ok (.iload_n 1, 1) := by decide +kernel
theorem dX0_howManyAtStrength_37 : decode cX0_howManyAtStrength 37 = .ok (.ireturn, 1) := by decide +kernel
theorem dX0_init_0 : decode cX0_init 0 = .ok (.aload_n 0, 1) := by decide +kernel
theorem dX0_init_1 : decode cX0_init 1 = .ok (.invokespecial 3, 3) := by decide +kernel
theorem dX0_init_4 : decode cX0_init 4 = .ok (.aload_n 0, 1) := by decide +kernel
theorem dX0_init_5 : decode cX0_init 5 = .ok (.bipush 10, 2) := by decide +kernel
theorem dX0_init_7 : decode cX0_init 7 = .ok (.newarray .int, 2) := by decide +kernel
theorem dX0_init_9 : decode cX0_init 9 = .ok (.putfield 9, 3) := by decide +kernel
theorem dX0_init_12 : decode cX0_init 12 = .ok (.aload_n 0, 1) := by decide +kernel
theorem dX0_init_13 : decode cX0_init 13 = .ok (.bipush 10, 2) := by decide +kernel
theorem dX0_init_15 : decode cX0_init 15 = .ok (.newarray .int, 2) := by decide +kernel
theorem dX0_init_17 : decode cX0_init 17 = .ok (.putfield 15, 3) := by decide +kernel
theorem dX0_init_20 : decode cX0_init 20 = .ok (.aload_n 0, 1) := by decide +kernel
theorem dX0_init_21 : decode cX0_init 21 = .ok (.bipush 10, 2) := by decide +kernel
theorem dX0_init_23 : decode cX0_init 23 = .ok (.newarray .int, 2) := by decide +kernel
theorem dX0_init_25 : decode cX0_init 25 = .ok (.putfield 18, 3) := by decide +kernel
theorem dX0_init_28 : decode cX0_init 28 = .ok (.aload_n 0, 1) := by decide +kernel
theorem dX0_init_29 : decode cX0_init 29 = .ok (.bipush 10, 2) := by decide +kernel
theorem dX0_init_31 : decode cX0_init 31 = .ok (.newarray .int, 2) := by decide +kernel
theorem dX0_init_33 : decode cX0_init 33 = .ok (.putfield 21, 3) := by decide +kernel
theorem dX0_init_36 : decode cX0_init 36 = .ok (.aload_n 0, 1) := by decide +kernel
theorem dX0_init_37 : decode cX0_init 37 = .ok (.bipush 10, 2) := by decide +kernel
theorem dX0_init_39 : decode cX0_init 39 = .ok (.newarray .int, 2) := by decide +kernel
theorem dX0_init_41 : decode cX0_init 41 = .ok (.putfield 24, 3) := by decide +kernel
theorem dX0_init_44 : decode cX0_init 44 = .ok (.aload_n 0, 1) := by decide +kernel
theorem dX0_init_45 : decode cX0_init 45 = .ok (.bipush 10, 2) := by decide +kernel
theorem dX0_init_47 : decode cX0_init 47 = .ok (.newarray .int, 2) := by decide +kernel
theorem dX0_init_49 : decode cX0_init 49 = .ok (.putfield 27, 3) := by decide +kernel
theorem dX0_init_52 : decode cX0_init 52 = .ok (.return_, 1) := by decide +kernel
theorem dX0_mixedInto_0 : decode cX0_mixedInto 0 = .ok (.lload_n 1, 1) := by decide +kernel
theorem dX0_mixedInto_1 : decode cX0_mixedInto 1 = .ok (.lstore_n 3, 1) := by decide +kernel
theorem dX0_mixedInto_2 : decode cX0_mixedInto 2 = .ok (.iconst 0, 1) := by decide +kernel
theorem dX0_mixedInto_3 : decode cX0_mixedInto 3 = .ok (.istore 5, 2) := by decide +kernel
theorem dX0_mixedInto_5 : decode cX0_mixedInto 5 = .ok (.iload 5, 2) := by decide +kernel
theorem dX0_mixedInto_7 : decode cX0_mixedInto 7 = .ok (.aload_n 0, 1) := by decide +kernel
theorem dX0_mixedInto_8 : decode cX0_mixedInto 8 = .ok (.getfield 30, 3) := by decide +kernel
theorem dX0_mixedInto_11 : decode cX0_mixedInto 11 = .ok (.if_icmp .ge 99, 3) := by decide +kernel
theorem dX0_mixedInto_14 : decode cX0_mixedInto 14 = .ok (.ldc2_w 47, 3) := by decide +kernel
theorem dX0_mixedInto_17 : decode cX0_mixedInto 17 = .ok (.lload_n 3, 1) := by decide +kernel
theorem dX0_mixedInto_18 : decode cX0_mixedInto 18 = .ok (.lmul, 1) := by decide +kernel
theorem dX0_mixedInto_19 : decode cX0_mixedInto 19 = .ok (.aload_n 0, 1) := by decide +kernel
theorem dX0_mixedInto_20 : decode cX0_mixedInto 20 = .ok (.getfield 9, 3) := by decide +kernel
theorem dX0_mixedInto_23 : decode cX0_mixedInto 23 = .ok (.iload 5, 2) := by decide +kernel
theorem dX0_mixedInto_25 : decode cX0_mixedInto 25 = .ok (.iaload, 1) := by decide +kernel
theorem dX0_mixedInto_26 : decode cX0_mixedInto 26 = .ok (.i2l, 1) := by decide +kernel
theorem dX0_mixedInto_27 : decode cX0_mixedInto 27 = .ok (.ladd, 1) := by decide +kernel
theorem dX0_mixedInto_28 : decode cX0_mixedInto 28 = .ok (.lstore_n 3, 1) := by decide +kernel
theorem dX0_mixedInto_29 : decode cX0_mixedInto 29 = .ok (.ldc2_w 47, 3) := by decide +kernel
theorem dX0_mixedInto_32 : decode cX0_mixedInto 32 = .ok (.lload_n 3, 1) := by decide +kernel
theorem dX0_mixedInto_33 : decode cX0_mixedInto 33 = .ok (.lmul, 1) := by decide +kernel
theorem dX0_mixedInto_34 : decode cX0_mixedInto 34 = .ok (.aload_n 0, 1) := by decide +kernel
theorem dX0_mixedInto_35 : decode cX0_mixedInto 35 = .ok (.getfield 15, 3) := by decide +kernel
theorem dX0_mixedInto_38 : decode cX0_mixedInto 38 = .ok (.iload 5, 2) := by decide +kernel
theorem dX0_mixedInto_40 : decode cX0_mixedInto 40 = .ok (.iaload, 1) := by decide +kernel
theorem dX0_mixedInto_41 : decode cX0_mixedInto 41 = .ok (.i2l, 1) := by decide +kernel
theorem dX0_mixedInto_42 : decode cX0_mixedInto 42 = .ok (.ladd, 1) := by decide +kernel
theorem dX0_mixedInto_43 : decode cX0_mixedInto 43 = .ok (.lstore_n 3, 1) := by decide +kernel
theorem dX0_mixedInto_44 : decode cX0_mixedInto 44 = .ok (.ldc2_w 47, 3) := by decide +kernel
theorem dX0_mixedInto_47 : decode cX0_mixedInto 47 = .ok (.lload_n 3, 1) := by decide +kernel
theorem dX0_mixedInto_48 : decode cX0_mixedInto 48 = .ok (.lmul, 1) := by decide +kernel
theorem dX0_mixedInto_49 : decode cX0_mixedInto 49 = .ok (.aload_n 0, 1) := by decide +kernel
theorem dX0_mixedInto_50 : decode cX0_mixedInto 50 = .ok (.getfield 18, 3) := by decide +kernel
theorem dX0_mixedInto_53 : decode cX0_mixedInto 53 = .ok (.iload 5, 2) := by decide +kernel
theorem dX0_mixedInto_55 : decode cX0_mixedInto 55 = .ok (.iaload, 1) := by decide +kernel
theorem dX0_mixedInto_56 : decode cX0_mixedInto 56 = .ok (.i2l, 1) := by decide +kernel
theorem dX0_mixedInto_57 : decode cX0_mixedInto 57 = .ok (.ladd, 1) := by decide +kernel
theorem dX0_mixedInto_58 : decode cX0_mixedInto 58 = .ok (.lstore_n 3, 1) := by decide +kernel
theorem dX0_mixedInto_59 : decode cX0_mixedInto 59 = .ok (.ldc2_w 47, 3) := by decide +kernel
theorem dX0_mixedInto_62 : decode cX0_mixedInto 62 = .ok (.lload_n 3, 1) := by decide +kernel
theorem dX0_mixedInto_63 : decode cX0_mixedInto 63 = .ok (.lmul, 1) := by decide +kernel
theorem dX0_mixedInto_64 : decode cX0_mixedInto 64 = .ok (.aload_n 0, 1) := by decide +kernel
theorem dX0_mixedInto_65 : decode cX0_mixedInto 65 = .ok (.getfield 21, 3) := by decide +kernel
theorem dX0_mixedInto_68 : decode cX0_mixedInto 68 = .ok (.iload 5, 2) := by decide +kernel
theorem dX0_mixedInto_70 : decode cX0_mixedInto 70 = .ok (.iaload, 1) := by decide +kernel
theorem dX0_mixedInto_71 : decode cX0_mixedInto 71 = .ok (.i2l, 1) := by decide +kernel
theorem dX0_mixedInto_72 : decode cX0_mixedInto 72 = .ok (.ladd, 1) := by decide +kernel
theorem dX0_mixedInto_73 : decode cX0_mixedInto 73 = .ok (.lstore_n 3, 1) := by decide +kernel
theorem dX0_mixedInto_74 : decode cX0_mixedInto 74 = .ok (.ldc2_w 47, 3) := by decide +kernel
theorem dX0_mixedInto_77 : decode cX0_mixedInto 77 = .ok (.lload_n 3, 1) := by decide +kernel
theorem dX0_mixedInto_78 : decode cX0_mixedInto 78 = .ok (.lmul, 1) := by decide +kernel
theorem dX0_mixedInto_79 : decode cX0_mixedInto 79 = .ok (.aload_n 0, 1) := by decide +kernel
theorem dX0_mixedInto_80 : decode cX0_mixedInto 80 = .ok (.getfield 24, 3) := by decide +kernel
theorem dX0_mixedInto_83 : decode cX0_mixedInto 83 = .ok (.iload 5, 2) := by decide +kernel
theorem dX0_mixedInto_85 : decode cX0_mixedInto 85 = .ok (.iaload, 1) := by decide +kernel
theorem dX0_mixedInto_86 : decode cX0_mixedInto 86 = .ok (.i2l, 1) := by decide +kernel
theorem dX0_mixedInto_87 : decode cX0_mixedInto 87 = .ok (.ladd, 1) := by decide +kernel
theorem dX0_mixedInto_88 : decode cX0_mixedInto 88 = .ok (.lstore_n 3, 1) := by decide +kernel
theorem dX0_mixedInto_89 : decode cX0_mixedInto 89 = .ok (.ldc2_w 47, 3) := by decide +kernel
theorem dX0_mixedInto_92 : decode cX0_mixedInto 92 = .ok (.lload_n 3, 1) := by decide +kernel
theorem dX0_mixedInto_93 : decode cX0_mixedInto 93 = .ok (.lmul, 1) := by decide +kernel
theorem dX0_mixedInto_94 : decode cX0_mixedInto 94 = .ok (.aload_n 0, 1) := by decide +kernel
theorem dX0_mixedInto_95 : decode cX0_mixedInto 95 = .ok (.getfield 27, 3) := by decide +kernel
theorem dX0_mixedInto_98 : decode cX0_mixedInto 98 = .ok (.iload 5, 2) := by decide +kernel
theorem dX0_mixedInto_100 : decode cX0_mixedInto 100 = .ok (.iaload, 1) := by decide +kernel
theorem dX0_mixedInto_101 : decode cX0_mixedInto 101 = .ok (.i2l, 1) := by decide +kernel
theorem dX0_mixedInto_102 : decode cX0_mixedInto 102 = .ok (.ladd, 1) := by decide +kernel
theorem dX0_mixedInto_103 : decode cX0_mixedInto 103 = .ok (.lstore_n 3, 1) := by decide +kernel
theorem dX0_mixedInto_104 : decode cX0_mixedInto 104 = .ok (.iinc 5 1, 3) := by decide +kernel
theorem dX0_mixedInto_107 : decode cX0_mixedInto 107 = .ok (.goto (-102), 3) := by decide +kernel
theorem dX0_mixedInto_110 : decode cX0_mixedInto 110 = .ok (.lload_n 3, 1) := by decide +kernel
theorem dX0_mixedInto_111 : decode cX0_mixedInto 111 = .ok (.lreturn, 1) := by decide +kernel
theorem dX0_restFor_0 : decode cX0_restFor 0 = .ok (.iconst 0, 1) := by decide +kernel
theorem dX0_restFor_1 : decode cX0_restFor 1 = .ok (.istore_n 3, 1) := by decide +kernel
theorem dX0_restFor_2 : decode cX0_restFor 2 = .ok (.iload_n 3, 1) := by decide +kernel
theorem dX0_restFor_3 : decode cX0_restFor 3 = .ok (.aload_n 0, 1) := by decide +kernel
theorem dX0_restFor_4 : decode cX0_restFor 4 = .ok (.getfield 30, 3) := by decide +kernel
theorem dX0_restFor_7 : decode cX0_restFor 7 = .ok (.if_icmp .ge 39, 3) := by decide +kernel
theorem dX0_restFor_10 : decode cX0_restFor 10 = .ok (.iload_n 3, 1) := by decide +kernel
theorem dX0_restFor_11 : decode cX0_restFor 11 = .ok (.aload_n 2, 1) := by decide +kernel
theorem dX0_restFor_12 : decode cX0_restFor 12 = .ok (.arraylength, 1) := by decide +kernel
theorem dX0_restFor_13 : decode cX0_restFor 13 = .ok (.if_icmp .ge 33, 3) := by decide +kernel
theorem dX0_restFor_16 : decode cX0_restFor 16 = .ok (.aload_n 2, 1) := by decide +kernel
theorem dX0_restFor_17 : decode cX0_restFor 17 = .ok (.iload_n 3, 1) := by decide +kernel
theorem dX0_restFor_18 : decode cX0_restFor 18 = .ok (.aload_n 0, 1) := by decide +kernel
theorem dX0_restFor_19 : decode cX0_restFor 19 = .ok (.getfield 9, 3) := by decide +kernel
theorem dX0_restFor_22 : decode cX0_restFor 22 = .ok (.iload_n 3, 1) := by decide +kernel
theorem dX0_restFor_23 : decode cX0_restFor 23 = .ok (.iaload, 1) := by decide +kernel
theorem dX0_restFor_24 : decode cX0_restFor 24 = .ok (.aload_n 2, 1) := by decide +kernel
theorem dX0_restFor_25 : decode cX0_restFor 25 = .ok (.iload_n 3, 1) := by decide +kernel
theorem dX0_restFor_26 : decode cX0_restFor 26 = .ok (.iaload, 1) := by decide +kernel
theorem dX0_restFor_27 : decode cX0_restFor 27 = .ok (.iload_n 1, 1) := by decide +kernel
theorem dX0_restFor_28 : decode cX0_restFor 28 = .ok (.aload_n 0, 1) := by decide +kernel
theorem dX0_restFor_29 : decode cX0_restFor 29 = .ok (.getfield 18, 3) := by decide +kernel
theorem dX0_restFor_32 : decode cX0_restFor 32 = .ok (.iload_n 3, 1) := by decide +kernel
theorem dX0_restFor_33 : decode cX0_restFor 33 = .ok (.iaload, 1) := by decide +kernel
theorem dX0_restFor_34 : decode cX0_restFor 34 = .ok (.imul, 1) := by decide +kernel
theorem dX0_restFor_35 : decode cX0_restFor 35 = .ok (.iadd, 1) := by decide +kernel
theorem dX0_restFor_36 : decode cX0_restFor 36 = .ok (.invokestatic 41, 3) := by decide +kernel
theorem dX0_restFor_39 : decode cX0_restFor 39 = .ok (.iastore, 1) := by decide +kernel
theorem dX0_restFor_40 : decode cX0_restFor 40 = .ok (.iinc 3 1, 3) := by decide +kernel
theorem dX0_restFor_43 : decode cX0_restFor 43 = .ok (.goto (-41), 3) := by decide +kernel
theorem dX0_restFor_46 : decode cX0_restFor 46 = .ok (.return_, 1) := by decide +kernel
theorem dX10_init_0 : decode cX10_init 0 = .ok (.aload_n 0, 1) := by decide +kernel
theorem dX10_init_1 : decode cX10_init 1 = .ok (.invokespecial 3, 3) := by decide +kernel
theorem dX10_init_4 : decode cX10_init 4 = .ok (.aload_n 0, 1) := by decide +kernel
theorem dX10_init_5 : decode cX10_init 5 = .ok (.iload_n 1, 1) := by decide +kernel
theorem dX10_init_6 : decode cX10_init 6 = .ok (.putfield 9, 3) := by decide +kernel
theorem dX10_init_9 : decode cX10_init 9 = .ok (.aload_n 0, 1) := by decide +kernel
theorem dX10_init_10 : decode cX10_init 10 = .ok (.iload_n 2, 1) := by decide +kernel
theorem dX10_init_11 : decode cX10_init 11 = .ok (.putfield 15, 3) := by decide +kernel
theorem dX10_init_14 : decode cX10_init 14 = .ok (.return_, 1) := by decide +kernel
theorem dX10_isStrong_0 : decode cX10_isStrong 0 = .ok (.aload_n 0, 1) := by decide +kernel
theorem dX10_isStrong_1 : decode cX10_isStrong 1 = .ok (.getfield 15, 3) := by decide +kernel
theorem dX10_isStrong_4 : decode cX10_isStrong 4 = .ok (.aload_n 0, 1) := by decide +kernel
theorem dX10_isStrong_5 : decode cX10_isStrong 5 = .ok (.getfield 9, 3) := by decide +kernel
theorem dX10_isStrong_8 : decode cX10_isStrong 8 = .ok (.iconst 1, 1) := by decide +kernel
theorem dX10_isStrong_9 : decode cX10_isStrong 9 = .ok (.isub, 1) := by decide +kernel
theorem dX10_isStrong_10 : decode cX10_isStrong 10 = .ok (.iload_n 1, 1) := by decide +kernel
theorem dX10_isStrong_11 : decode cX10_isStrong 11 = .ok (.isub, 1) := by decide +kernel
theorem dX10_isStrong_12 : decode cX10_isStrong 12 = .ok (.ishr, 1) := by decide +kernel
theorem dX10_isStrong_13 : decode cX10_isStrong 13 = .ok (.iconst 1, 1) := by decide +kernel
theorem dX10_isStrong_14 : decode cX10_isStrong 14 = .ok (.iand, 1) := by decide +kernel
theorem dX10_isStrong_15 : decode cX10_isStrong 15 = .ok (.iconst 1, 1) := by decide +kernel
theorem dX10_isStrong_16 : decode cX10_isStrong 16 = .ok (.if_icmp .ne 7, 3) := by decide +kernel
theorem dX10_isStrong_19 : decode cX10_isStrong 19 = .ok (.iconst 1, 1) := by decide +kernel
theorem dX10_isStrong_20 : decode cX10_isStrong 20 = .ok (.goto 4, 3) := by decide +kernel
theorem dX10_isStrong_23 : decode cX10_isStrong 23 = .ok (.iconst 0, 1) := by decide +kernel
theorem dX10_isStrong_24 : decode cX10_isStrong 24 = .ok (.ireturn, 1) := by decide +kernel
theorem dX10_mixedInto_0 : decode cX10_mixedInto 0 = .ok (.ldc2_w 34, 3) := by decide +kernel
theorem dX10_mixedInto_3 : decode cX10_mixedInto 3 = .ok (.ldc2_w 34, 3) := by decide +kernel
theorem dX10_mixedInto_6 : decode cX10_mixedInto 6 = .ok (.lload_n 1, 1) := by decide +kernel
theorem dX10_mixedInto_7 : decode cX10_mixedInto 7 = .ok (.lmul, 1) := by decide +kernel
theorem dX10_mixedInto_8 : decode cX10_mixedInto 8 = .ok (.aload_n 0, 1) := by decide +kernel
theorem dX10_mixedInto_9 : decode cX10_mixedInto 9 = .ok (.getfield 9, 3) := by decide +kernel
theorem dX10_mixedInto_12 : decode cX10_mixedInto 12 = .ok (.i2l, 1) := by decide +kernel
theorem dX10_mixedInto_13 : decode cX10_mixedInto 13 = .ok (.ladd, 1) := by decide +kernel
theorem dX10_mixedInto_14 : decode cX10_mixedInto 14 = .ok (.lmul, 1) := by decide +kernel
theorem dX10_mixedInto_15 : decode cX10_mixedInto 15 = .ok (.aload_n 0, 1) := by decide +kernel
theorem dX10_mixedInto_16 : decode cX10_mixedInto 16 = .ok (.getfield 15, 3) := by decide +kernel
theorem dX10_mixedInto_19 : decode cX10_mixedInto 19 = .ok (.i2l, 1) := by decide +kernel
theorem dX10_mixedInto_20 : decode cX10_mixedInto 20 = .ok (.ladd, 1) := by decide +kernel
theorem dX10_mixedInto_21 : decode cX10_mixedInto 21 = .ok (.lreturn, 1) := by decide +kernel
theorem dX11_isSilent_0 : decode cX11_isSilent 0 = .ok (.iload_n 0, 1) := by decide +kernel
theorem dX11_isSilent_1 : decode cX11_isSilent 1 = .ok (.iconst 1, 1) := by decide +kernel
theorem dX11_isSilent_2 : decode cX11_isSilent 2 = .ok (.if_icmp .eq 12, 3) := by decide +kernel
theorem dX11_isSilent_5 : decode cX11_isSilent 5 = .ok (.iload_n 0, 1) := by decide +kernel
theorem dX11_isSilent_6 : decode cX11_isSilent 6 = .ok (.iconst 2, 1) := by decide +kernel
theorem dX11_isSilent_7 : decode cX11_isSilent 7 = .ok (.if_icmp .eq 7, 3) := by decide +kernel
theorem dX11_isSilent_10 : decode cX11_isSilent 10 = .ok (.iconst 1, 1) := by decide +kernel
theorem dX11_isSilent_11 : decode cX11_isSilent 11 = .ok (.goto 4, 3) := by decide +kernel
theorem dX11_isSilent_14 : decode cX11_isSilent 14 = .ok (.iconst 0, 1) := by decide +kernel
theorem dX11_isSilent_15 : decode cX11_isSilent 15 = .ok (.ireturn, 1) := by decide +kernel
theorem dX10_wrongIfSungFrom_0 : decode cX10_wrongIfSungFrom 0 = .ok (.iload_n 2, 1) := by decide +kernel
theorem dX10_wrongIfSungFrom_1 : decode cX10_wrongIfSungFrom 1 = .ok (.ifCond .lt 16, 3) := by decide +kernel
theorem dX10_wrongIfSungFrom_4 : decode cX10_wrongIfSungFrom 4 = .ok (.iload_n 2, 1) := by decide +kernel
theorem dX10_wrongIfSungFrom_5 : decode cX10_wrongIfSungFrom 5 = .ok (.aload_n 0, 1) := by decide +kernel
theorem dX10_wrongIfSungFrom_6 : decode cX10_wrongIfSungFrom 6 = .ok (.getfield 9, 3) := by decide +kernel
theorem dX10_wrongIfSungFrom_9 : decode cX10_wrongIfSungFrom 9 = .ok (.iadd, 1) := by decide +kernel
theorem dX10_wrongIfSungFrom_10 : decode cX10_wrongIfSungFrom 10 = .ok (.aload_n 1, 1) := by decide +kernel
theorem dX10_wrongIfSungFrom_11 : decode cX10_wrongIfSungFrom 11 = .ok (.getfield 18, 3) := by decide +kernel
theorem dX10_wrongIfSungFrom_14 : decode cX10_wrongIfSungFrom 14 = .ok (.if_icmp .le 5, 3) := by decide +kernel
theorem dX10_wrongIfSungFrom_17 : decode cX10_wrongIfSungFrom 17 = .ok (.iconst (-1), 1) := by decide +kernel
theorem dX10_wrongIfSungFrom_18 : decode cX10_wrongIfSungFrom 18 = .ok (.ireturn, 1) := by decide +kernel
theorem dX10_wrongIfSungFrom_19 : decode cX10_wrongIfSungFrom 19 = .ok (.iconst 0, 1) := by decide +kernel
theorem dX10_wrongIfSungFrom_20 : decode cX10_wrongIfSungFrom 20 = .ok (.istore_n 3, 1) := by decide +kernel
theorem dX10_wrongIfSungFrom_21 : decode cX10_wrongIfSungFrom 21 = .ok (.iconst 0, 1) := by decide +kernel
theorem dX10_wrongIfSungFrom_22 : decode cX10_wrongIfSungFrom 22 = .ok (.istore 4, 2) := by decide +kernel
theorem dX10_wrongIfSungFrom_24 : decode cX10_wrongIfSungFrom 24 = .ok (.iload 4, 2) := by decide +kernel
theorem dX10_wrongIfSungFrom_26 : decode cX10_wrongIfSungFrom 26 = .ok (.aload_n 0, 1) := by decide +kernel
theorem dX10_wrongIfSungFrom_27 : decode cX10_wrongIfSungFrom 27 = .ok (.getfield 9, 3) := by decide +kernel
theorem dX10_wrongIfSungFrom_30 : decode cX10_wrongIfSungFrom 30 = .ok (.if_icmp .ge 53, 3) := by decide +kernel
theorem dX10_wrongIfSungFrom_33 : decode cX10_wrongIfSungFrom 33 = .ok (.aload_n 1, 1) := by decide +kernel
theorem dX10_wrongIfSungFrom_34 : decode cX10_wrongIfSungFrom 34 = .ok (.getfield 23, 3) := by decide +kernel
theorem dX10_wrongIfSungFrom_37 : decode cX10_wrongIfSungFrom 37 = .ok (.iload_n 2, 1) := by decide +kernel
theorem dX10_wrongIfSungFrom_38 : decode cX10_wrongIfSungFrom 38 = .ok (.iload 4, 2) := by decide +kernel
theorem dX10_wrongIfSungFrom_40 : decode cX10_wrongIfSungFrom 40 = .ok (.iadd, 1) := by decide +kernel
theorem dX10_wrongIfSungFrom_41 : decode cX10_wrongIfSungFrom 41 = .ok (.iaload, 1) := by decide +kernel
theorem dX10_wrongIfSungFrom_42 : decode cX10_wrongIfSungFrom 42 = .ok (.istore 5, 2) := by decide +kernel
theorem dX10_wrongIfSungFrom_44 : decode cX10_wrongIfSungFrom 44 = .ok (.iload 5, 2) := by decide +kernel
theorem dX10_wrongIfSungFrom_46 : decode cX10_wrongIfSungFrom 46 = .ok (.invokestatic 27, 3) := by decide +kernel
theorem dX10_wrongIfSungFrom_49 : decode cX10_wrongIfSungFrom 49 = .ok (.ifCond .eq 5, 3) := by decide +kernel
theorem dX10_wrongIfSungFrom_52 : decode cX10_wrongIfSungFrom 52 = .ok (.iconst (-1), 1) := by decide +kernel
theorem dX10_wrongIfSungFrom_53 : decode cX10_wrongIfSungFrom 53 = .ok (.ireturn, 1) := by decide +kernel
theorem dX10_wrongIfSungFrom_54 : decode cX10_wrongIfSungFrom 54 = .ok (.aload_n 0, 1) := by decide +kernel
theorem dX10_wrongIfSungFrom_55 : decode cX10_wrongIfSungFrom 55 = .ok (.iload 4, 2) := by decide +kernel
theorem dX10_wrongIfSungFrom_57 : decode cX10_wrongIfSungFrom 57 = .ok (.invokevirtual 31, 3) := by decide +kernel
theorem dX10_wrongIfSungFrom_60 : decode cX10_wrongIfSungFrom 60 = .ok (.iload 5, 2) := by decide +kernel
theorem dX10_wrongIfSungFrom_62 : decode cX10_wrongIfSungFrom 62 = .ok (.iconst 2, 1) := by decide +kernel
theorem dX10_wrongIfSungFrom_63 : decode cX10_wrongIfSungFrom 63 = .ok (.if_icmp .ne 7, 3) := by decide +kernel
theorem dX10_wrongIfSungFrom_66 : decode cX10_wrongIfSungFrom 66 = .ok (.iconst 1, 1) := by decide +kernel
theorem dX10_wrongIfSungFrom_67 : decode cX10_wrongIfSungFrom 67 = .ok (.goto 4, 3) := by decide +kernel
theorem dX10_wrongIfSungFrom_70 : decode cX10_wrongIfSungFrom 70 = .ok (.iconst 0, 1) := by decide +kernel
theorem dX10_wrongIfSungFrom_71 : decode cX10_wrongIfSungFrom 71 = .ok (.if_icmp .eq 6, 3) := by decide +kernel
theorem dX10_wrongIfSungFrom_74 : decode cX10_wrongIfSungFrom 74 = .ok (.iinc 3 1, 3) := by decide +kernel
theorem dX10_wrongIfSungFrom_77 : decode cX10_wrongIfSungFrom 77 = .ok (.iinc 4 1, 3) := by decide +kernel
theorem dX10_wrongIfSungFrom_80 : decode cX10_wrongIfSungFrom 80 = .ok (.goto (-56), 3) := by decide +kernel
theorem dX10_wrongIfSungFrom_83 : decode cX10_wrongIfSungFrom 83 = .ok (.iload_n 3, 1) := by decide +kernel
theorem dX10_wrongIfSungFrom_84 : decode cX10_wrongIfSungFrom 84 = .ok (.ireturn, 1) := by decide +kernel
theorem dX11_songOf_0 : decode cX11_songOf 0 = .ok (.iload_n 1, 1) := by decide +kernel
theorem dX11_songOf_1 : decode cX11_songOf 1 = .ok (.iconst 0, 1) := by decide +kernel
theorem dX11_songOf_2 : decode cX11_songOf 2 = .ok (.aload_n 0, 1) := by decide +kernel
theorem dX11_songOf_3 : decode cX11_songOf 3 = .ok (.getfield 19, 3) := by decide +kernel
theorem dX11_songOf_6 : decode cX11_songOf 6 = .ok (.invokevirtual 86, 3) := by decide +kernel
theorem dX11_songOf_9 : decode cX11_songOf 9 = .ok (.iconst 1, 1) := by decide +kernel
theorem dX11_songOf_10 : decode cX11_songOf 10 = .ok (.isub, 1) := by decide +kernel
theorem dX11_songOf_11 : decode cX11_songOf 11 = .ok (.invokestatic 113, 3) := by decide +kernel
theorem dX11_songOf_14 : decode cX11_songOf 14 = .ok (.ifCond .eq 17, 3) := by decide +kernel
theorem dX11_songOf_17 : decode cX11_songOf 17 = .ok (.aload_n 0, 1) := by decide +kernel
theorem dX11_songOf_18 : decode cX11_songOf 18 = .ok (.getfield 19, 3) := by decide +kernel
theorem dX11_songOf_21 : decode cX11_songOf 21 = .ok (.iload_n 1, 1) := by decide +kernel
theorem dX11_songOf_22 : decode cX11_songOf 22 = .ok (.invokevirtual 203, 3) := by decide +kernel
theorem dX11_songOf_25 : decode cX11_songOf 25 = .ok (.checkcast 89, 3) := by decide +kernel
theorem dX11_songOf_28 : decode cX11_songOf 28 = .ok (.goto 4, 3) := by decide +kernel
theorem dX11_songOf_31 : decode cX11_songOf 31 = .ok (.aconst_null, 1) := by decide +kernel
theorem dX11_songOf_32 : decode cX11_songOf 32 = .ok (.areturn, 1) := by decide +kernel
theorem dX2_changes_0 : decode cX2_changes 0 = .ok (.iconst 0, 1) := by decide +kernel
theorem dX2_changes_1 : decode cX2_changes 1 = .ok (.istore_n 3, 1) := by decide +kernel
theorem dX2_changes_2 : decode cX2_changes 2 = .ok (.iload_n 3, 1) := by decide +kernel
theorem dX2_changes_3 : decode cX2_changes 3 = .ok (.aload_n 2, 1) := by decide +kernel
theorem dX2_changes_4 : decode cX2_changes 4 = .ok (.getfield 35, 3) := by decide +kernel
theorem dX2_changes_7 : decode cX2_changes 7 = .ok (.if_icmp .gt 16, 3) := by decide +kernel
theorem dX2_changes_10 : decode cX2_changes 10 = .ok (.aload_n 0, 1) := by decide +kernel
theorem dX2_changes_11 : decode cX2_changes 11 = .ok (.getfield 9, 3) := by decide +kernel
theorem dX2_changes_14 : decode cX2_changes 14 = .ok (.iload_n 3, 1) := by decide +kernel
theorem dX2_changes_15 : decode cX2_changes 15 = .ok (.iload_n 3, 1) := by decide +kernel
theorem dX2_changes_16 : decode cX2_changes 16 = .ok (.iastore, 1) := by decide +kernel
theorem dX2_changes_17 : decode cX2_changes 17 = .ok (.iinc 3 1, 3) := by decide +kernel
theorem dX2_changes_20 : decode cX2_changes 20 = .ok (.goto (-18), 3) := by decide +kernel
theorem dX2_changes_23 : decode cX2_changes 23 = .ok (.iconst 0, 1) := by decide +kernel
theorem dX2_changes_24 : decode cX2_changes 24 = .ok (.istore_n 3, 1) := by decide +kernel
theorem dX2_changes_25 : decode cX2_changes 25 = .ok (.iload_n 3, 1) := by decide +kernel
theorem dX2_changes_26 : decode cX2_changes 26 = .ok (.aload_n 1, 1) := by decide +kernel
theorem dX2_changes_27 : decode cX2_changes 27 = .ok (.getfield 35, 3) := by decide +kernel
theorem dX2_changes_30 : decode cX2_changes 30 = .ok (.if_icmp .ge 113, 3) := by decide +kernel
theorem dX2_changes_33 : decode cX2_changes 33 = .ok (.aload_n 0, 1) := by decide +kernel
theorem dX2_changes_34 : decode cX2_changes 34 = .ok (.getfield 9, 3) := by decide +kernel
theorem dX2_changes_37 : decode cX2_changes 37 = .ok (.iconst 0, 1) := by decide +kernel
theorem dX2_changes_38 : decode cX2_changes 38 = .ok (.iaload, 1) := by decide +kernel
theorem dX2_changes_39 : decode cX2_changes 39 = .ok (.istore 4, 2) := by decide +kernel
theorem dX2_changes_41 : decode cX2_changes 41 = .ok (.aload_n 0, 1) := by decide +kernel
theorem dX2_changes_42 : decode cX2_changes 42 = .ok (.getfield 9, 3) := by decide +kernel
theorem dX2_changes_45 : decode cX2_changes 45 = .ok (.iconst 0, 1) := by decide +kernel
theorem dX2_changes_46 : decode cX2_changes 46 = .ok (.iload_n 3, 1) := by decide +kernel
theorem dX2_changes_47 : decode cX2_changes 47 = .ok (.iconst 1, 1) := by decide +kernel
theorem dX2_changes_48 : decode cX2_changes 48 = .ok (.iadd, 1) := by decide +kernel
theorem dX2_changes_49 : decode cX2_changes 49 = .ok (.iastore, 1) := by decide +kernel
theorem dX2_changes_50 : decode cX2_changes 50 = .ok (.iconst 0, 1) := by decide +kernel
theorem dX2_changes_51 : decode cX2_changes 51 = .ok (.istore 5, 2) := by decide +kernel
theorem dX2_changes_53 : decode cX2_changes 53 = .ok (.iload 5, 2) := by decide +kernel
theorem dX2_changes_55 : decode cX2_changes 55 = .ok (.aload_n 2, 1) := by decide +kernel
theorem dX2_changes_56 : decode cX2_changes 56 = .ok (.getfield 35, 3) := by decide +kernel
theorem dX2_changes_59 : decode cX2_changes 59 = .ok (.if_icmp .ge 78, 3) := by decide +kernel
theorem dX2_changes_62 : decode cX2_changes 62 = .ok (.aload_n 0, 1) := by decide +kernel
theorem dX2_changes_63 : decode cX2_changes 63 = .ok (.getfield 9, 3) := by decide +kernel
theorem dX2_changes_66 : decode cX2_changes 66 = .ok (.iload 5, 2) := by decide +kernel
theorem dX2_changes_68 : decode cX2_changes 68 = .ok (.iconst 1, 1) := by decide +kernel
theorem dX2_changes_69 : decode cX2_changes 69 = .ok (.iadd, 1) := by decide +kernel
theorem dX2_changes_70 : decode cX2_changes 70 = .ok (.iaload, 1) := by decide +kernel
theorem dX2_changes_71 : decode cX2_changes 71 = .ok (.istore 6, 2) := by decide +kernel
theorem dX2_changes_73 : decode cX2_changes 73 = .ok (.iload 4, 2) := by decide +kernel
theorem dX2_changes_75 : decode cX2_changes 75 = .ok (.aload_n 1, 1) := by decide +kernel
theorem dX2_changes_76 : decode cX2_changes 76 = .ok (.getfield 41, 3) := by decide +kernel
theorem dX2_changes_79 : decode cX2_changes 79 = .ok (.iload_n 3, 1) := by decide +kernel
theorem dX2_changes_80 : decode cX2_changes 80 = .ok (.iaload, 1) := by decide +kernel
theorem dX2_changes_81 : decode cX2_changes 81 = .ok (.aload_n 2, 1) := by decide +kernel
theorem dX2_changes_82 : decode cX2_changes 82 = .ok (.getfield 41, 3) := by decide +kernel
theorem dX2_changes_85 : decode cX2_changes 85 = .ok (.iload 5, 2) := by decide +kernel
theorem dX2_changes_87 : decode cX2_changes 87 = .ok (.iaload, 1) := by decide +kernel
theorem dX2_changes_88 : decode cX2_changes 88 = .ok (.if_icmp .ne 7, 3) := by decide +kernel
theorem dX2_changes_91 : decode cX2_changes 91 = .ok (.iconst 0, 1) := by decide +kernel
theorem dX2_changes_92 : decode cX2_changes 92 = .ok (.goto 4, 3) := by decide +kernel
theorem dX2_changes_95 : decode cX2_changes 95 = .ok (.iconst 1, 1) := by decide +kernel
theorem dX2_changes_96 : decode cX2_changes 96 = .ok (.iadd, 1) := by decide +kernel
theorem dX2_changes_97 : decode cX2_changes 97 = .ok (.istore 7, 2) := by decide +kernel
theorem dX2_changes_99 : decode cX2_changes 99 = .ok (.aload_n 0, 1) := by decide +kernel
theorem dX2_changes_100 : decode cX2_changes 100 = .ok (.getfield 9, 3) := by decide +kernel
theorem dX2_changes_103 : decode cX2_changes 103 = .ok (.iload 5, 2) := by decide +kernel
theorem dX2_changes_105 : decode cX2_changes 105 = .ok (.iconst 1, 1) := by decide +kernel
theorem dX2_changes_106 : decode cX2_changes 106 = .ok (.iadd, 1) := by decide +kernel
theorem dX2_changes_107 : decode cX2_changes 107 = .ok (.iload 7, 2) := by decide +kernel
theorem dX2_changes_109 : decode cX2_changes 109 = .ok (.iload 6, 2) := by decide +kernel
theorem dX2_changes_111 : decode cX2_changes 111 = .ok (.aload_n 0, 1) := by decide +kernel
theorem dX2_changes_112 : decode cX2_changes 112 = .ok (.getfield 9, 3) := by decide +kernel
theorem dX2_changes_115 : decode cX2_changes 115 = .ok (.iload 5, 2) := by decide +kernel
theorem dX2_changes_117 : decode cX2_changes 117 = .ok (.iaload, 1) := by decide +kernel
theorem dX2_changes_118 : decode cX2_changes 118 = .ok (.invokestatic 44, 3) := by decide +kernel
theorem dX2_changes_121 : decode cX2_changes 121 = .ok (.iconst 1, 1) := by decide +kernel
theorem dX2_changes_122 : decode cX2_changes 122 = .ok (.iadd, 1) := by decide +kernel
theorem dX2_changes_123 : decode cX2_changes 123 = .ok (.invokestatic 44, 3) := by decide +kernel
theorem dX2_changes_126 : decode cX2_changes 126 = .ok (.iastore, 1) := by decide +kernel
theorem dX2_changes_127 : decode cX2_changes 127 = .ok (.iload 6, 2) := by decide +kernel
theorem dX2_changes_129 : decode cX2_changes 129 = .ok (.istore 4, 2) := by decide +kernel
theorem dX2_changes_131 : decode cX2_changes 131 = .ok (.iinc 5 1, 3) := by decide +kernel
theorem dX2_changes_134 : decode cX2_changes 134 = .ok (.goto (-81), 3) := by decide +kernel
theorem dX2_changes_137 : decode cX2_changes 137 = .ok (.iinc 3 1, 3) := by decide +kernel
theorem dX2_changes_140 : decode cX2_changes 140 = .ok (.goto (-115), 3) := by decide +kernel
theorem dX2_changes_143 : decode cX2_changes 143 = .ok (.aload_n 0, 1) := by decide +kernel
theorem dX2_changes_144 : decode cX2_changes 144 = .ok (.getfield 9, 3) := by decide +kernel
theorem dX2_changes_147 : decode cX2_changes 147 = .ok (.aload_n 2, 1) := by decide +kernel
theorem dX2_changes_148 : decode cX2_changes 148 = .ok (.getfield 35, 3) := by decide +kernel
theorem dX2_changes_151 : decode cX2_changes 151 = .ok (.iaload, 1) := by decide +kernel
theorem dX2_changes_152 : decode cX2_changes 152 = .ok (.ireturn, 1) := by decide +kernel
theorem dX2_distance_0 : decode cX2_distance 0 = .ok (.aload_n 0, 1) := by decide +kernel
theorem dX2_distance_1 : decode cX2_distance 1 = .ok (.aload_n 1, 1) := by decide +kernel
theorem dX2_distance_2 : decode cX2_distance 2 = .ok (.getfield 22, 3) := by decide +kernel
theorem dX2_distance_5 : decode cX2_distance 5 = .ok (.aload_n 2, 1) := by decide +kernel
theorem dX2_distance_6 : decode cX2_distance 6 = .ok (.getfield 22, 3) := by decide +kernel
theorem dX2_distance_9 : decode cX2_distance 9 = .ok (.invokevirtual 28, 3) := by decide +kernel
theorem dX2_distance_12 : decode cX2_distance 12 = .ok (.aload_n 0, 1) := by decide +kernel
theorem dX2_distance_13 : decode cX2_distance 13 = .ok (.aload_n 1, 1) := by decide +kernel
theorem dX2_distance_14 : decode cX2_distance 14 = .ok (.getfield 32, 3) := by decide +kernel
theorem dX2_distance_17 : decode cX2_distance 17 = .ok (.aload_n 2, 1) := by decide +kernel
theorem dX2_distance_18 : decode cX2_distance 18 = .ok (.getfield 32, 3) := by decide +kernel
theorem dX2_distance_21 : decode cX2_distance 21 = .ok (.invokevirtual 28, 3) := by decide +kernel
theorem dX2_distance_24 : decode cX2_distance 24 = .ok (.iadd, 1) := by decide +kernel
theorem dX2_distance_25 : decode cX2_distance 25 = .ok (.ireturn, 1) := by decide +kernel
theorem dX11_apart_0 : decode cX11_apart 0 = .ok (.aload_n 0, 1) := by decide +kernel
theorem dX11_apart_1 : decode cX11_apart 1 = .ok (.iload_n 1, 1) := by decide +kernel
theorem dX11_apart_2 : decode cX11_apart 2 = .ok (.invokevirtual 106, 3) := by decide +kernel
theorem dX11_apart_5 : decode cX11_apart 5 = .ok (.astore_n 3, 1) := by decide +kernel
theorem dX11_apart_6 : decode cX11_apart 6 = .ok (.aload_n 0, 1) := by decide +kernel
theorem dX11_apart_7 : decode cX11_apart 7 = .ok (.iload_n 2, 1) := by decide +kernel
theorem dX11_apart_8 : decode cX11_apart 8 = .ok (.invokevirtual 106, 3) := by decide +kernel
theorem dX11_apart_11 : decode cX11_apart 11 = .ok (.astore 4, 2) := by decide +kernel
theorem dX11_apart_13 : decode cX11_apart 13 = .ok (.aload_n 3, 1) := by decide +kernel
theorem dX11_apart_14 : decode cX11_apart 14 = .ok (.ifnull 8, 3) := by decide +kernel
theorem dX11_apart_17 : decode cX11_apart 17 = .ok (.aload 4, 2) := by decide +kernel
theorem dX11_apart_19 : decode cX11_apart 19 = .ok (.ifnonnull 6, 3) := by decide +kernel
theorem dX11_apart_22 : decode cX11_apart 22 = .ok (.bipush (-2), 2) := by decide +kernel
theorem dX11_apart_24 : decode cX11_apart 24 = .ok (.ireturn, 1) := by decide +kernel
theorem dX11_apart_25 : decode cX11_apart 25 = .ok (.aload_n 0, 1) := by decide +kernel
theorem dX11_apart_26 : decode cX11_apart 26 = .ok (.getfield 74, 3) := by decide +kernel
theorem dX11_apart_29 : decode cX11_apart 29 = .ok (.aload_n 3, 1) := by decide +kernel
theorem dX11_apart_30 : decode cX11_apart 30 = .ok (.aload 4, 2) := by decide +kernel
theorem dX11_apart_32 : decode cX11_apart 32 = .ok (.invokevirtual 280, 3) := by decide +kernel
theorem dX11_apart_35 : decode cX11_apart 35 = .ok (.ireturn, 1) := by decide +kernel
theorem dX6_add_0 : decode cX6_add 0 = .ok (.aload_n 0, 1) := by decide +kernel
theorem dX6_add_1 : decode cX6_add 1 = .ok (.getfield 15, 3) := by decide +kernel
theorem dX6_add_4 : decode cX6_add 4 = .ok (.aload_n 0, 1) := by decide +kernel
theorem dX6_add_5 : decode cX6_add 5 = .ok (.getfield 9, 3) := by decide +kernel
theorem dX6_add_8 : decode cX6_add 8 = .ok (.arraylength, 1) := by decide +kernel
theorem dX6_add_9 : decode cX6_add 9 = .ok (.if_icmp .lt 5, 3) := by decide +kernel
theorem dX6_add_12 : decode cX6_add 12 = .ok (.iconst 0, 1) := by decide +kernel
theorem dX6_add_13 : decode cX6_add 13 = .ok (.ireturn, 1) := by decide +kernel
theorem dX6_add_14 : decode cX6_add 14 = .ok (.aload_n 0, 1) := by decide +kernel
theorem dX6_add_15 : decode cX6_add 15 = .ok (.getfield 9, 3) := by decide +kernel
theorem dX6_add_18 : decode cX6_add 18 = .ok (.aload_n 0, 1) := by decide +kernel
theorem dX6_add_19 : decode cX6_add 19 = .ok (.getfield 15, 3) := by decide +kernel
theorem dX6_add_22 : decode cX6_add 22 = .ok (.iload_n 1, 1) := by decide +kernel
theorem dX6_add_23 : decode cX6_add 23 = .ok (.iastore, 1) := by decide +kernel
theorem dX6_add_24 : decode cX6_add 24 = .ok (.aload_n 0, 1) := by decide +kernel
theorem dX6_add_25 : decode cX6_add 25 = .ok (.dup, 1) := by decide +kernel
theorem dX6_add_26 : decode cX6_add 26 = .ok (.getfield 15, 3) := by decide +kernel
theorem dX6_add_29 : decode cX6_add 29 = .ok (.iconst 1, 1) := by decide +kernel
theorem dX6_add_30 : decode cX6_add 30 = .ok (.iadd, 1) := by decide +kernel
theorem dX6_add_31 : decode cX6_add 31 = .ok (.putfield 15, 3) := by decide +kernel
theorem dX6_add_34 : decode cX6_add 34 = .ok (.iconst 1, 1) := by decide +kernel
theorem dX6_add_35 : decode cX6_add 35 = .ok (.ireturn, 1) := by decide +kernel
theorem dX11_beat_0 : decode cX11_beat 0 = .ok (.iload_n 1, 1) := by decide +kernel
theorem dX11_beat_1 : decode cX11_beat 1 = .ok (.ifCond .lt 8, 3) := by decide +kernel
theorem dX11_beat_4 : decode cX11_beat 4 = .ok (.iload_n 1, 1) := by decide +kernel
theorem dX11_beat_5 : decode cX11_beat 5 = .ok (.iconst 3, 1) := by decide +kernel
theorem dX11_beat_6 : decode cX11_beat 6 = .ok (.if_icmp .le 6, 3) := by decide +kernel
theorem dX11_beat_9 : decode cX11_beat 9 = .ok (.bipush (-2), 2) := by decide +kernel
theorem dX11_beat_11 : decode cX11_beat 11 = .ok (.ireturn, 1) := by decide +kernel
theorem dX11_beat_12 : decode cX11_beat 12 = .ok (.aload_n 0, 1) := by decide +kernel
theorem dX11_beat_13 : decode cX11_beat 13 = .ok (.getfield 10, 3) := by decide +kernel
theorem dX11_beat_16 : decode cX11_beat 16 = .ok (.iload_n 1, 1) := by decide +kernel
theorem dX11_beat_17 : decode cX11_beat 17 = .ok (.invokevirtual 78, 3) := by decide +kernel
theorem dX11_beat_20 : decode cX11_beat 20 = .ok (.ifCond .eq 13, 3) := by decide +kernel
theorem dX11_beat_23 : decode cX11_beat 23 = .ok (.aload_n 0, 1) := by decide +kernel
theorem dX11_beat_24 : decode cX11_beat 24 = .ok (.getfield 10, 3) := by decide +kernel
theorem dX11_beat_27 : decode cX11_beat 27 = .ok (.getfield 82, 3) := by decide +kernel
theorem dX11_beat_30 : decode cX11_beat 30 = .ok (.goto 5, 3) := by decide +kernel
theorem dX11_beat_33 : decode cX11_beat 33 = .ok (.bipush (-4), 2) := by decide +kernel
theorem dX11_beat_35 : decode cX11_beat 35 = .ok (.ireturn, 1) := by decide +kernel
theorem dX7_sungAt_0 : decode cX7_sungAt 0 = .ok (.aload_n 0, 1) := by decide +kernel
theorem dX7_sungAt_1 : decode cX7_sungAt 1 = .ok (.getfield 12, 3) := by decide +kernel
theorem dX7_sungAt_4 : decode cX7_sungAt 4 = .ok (.getfield 21, 3) := by decide +kernel
theorem dX7_sungAt_7 : decode cX7_sungAt 7 = .ok (.aload_n 0, 1) := by decide +kernel
theorem dX7_sungAt_8 : decode cX7_sungAt 8 = .ok (.getfield 18, 3) := by decide +kernel
theorem dX7_sungAt_11 : decode cX7_sungAt 11 = .ok (.getfield 21, 3) := by decide +kernel
theorem dX7_sungAt_14 : decode cX7_sungAt 14 = .ok (.iadd, 1) := by decide +kernel
theorem dX7_sungAt_15 : decode cX7_sungAt 15 = .ok (.istore_n 2, 1) := by decide +kernel
theorem dX7_sungAt_16 : decode cX7_sungAt 16 = .ok (.iload_n 1, 1) := by decide +kernel
theorem dX7_sungAt_17 : decode cX7_sungAt 17 = .ok (.ifCond .lt 7, 3) := by decide +kernel
theorem dX7_sungAt_20 : decode cX7_sungAt 20 = .ok (.iload_n 2, 1) := by decide +kernel
theorem dX7_sungAt_21 : decode cX7_sungAt 21 = .ok (.ifCond .gt 5, 3) := by decide +kernel
theorem dX7_sungAt_24 : decode cX7_sungAt 24 = .ok (.iconst 0, 1) := by decide +kernel
theorem dX7_sungAt_25 : decode cX7_sungAt 25 = .ok (.ireturn, 1) := by decide +kernel
theorem dX7_sungAt_26 : decode cX7_sungAt 26 = .ok (.iload_n 1, 1) := by decide +kernel
theorem dX7_sungAt_27 : decode cX7_sungAt 27 = .ok (.iload_n 2, 1) := by decide +kernel
theorem dX7_sungAt_28 : decode cX7_sungAt 28 = .ok (.irem, 1) := by decide +kernel
theorem dX7_sungAt_29 : decode cX7_sungAt 29 = .ok (.istore_n 3, 1) := by decide +kernel
theorem dX7_sungAt_30 : decode cX7_sungAt 30 = .ok (.iload_n 3, 1) := by decide +kernel
theorem dX7_sungAt_31 : decode cX7_sungAt 31 = .ok (.aload_n 0, 1) := by decide +kernel
theorem dX7_sungAt_32 : decode cX7_sungAt 32 = .ok (.getfield 12, 3) := by decide +kernel
theorem dX7_sungAt_35 : decode cX7_sungAt 35 = .ok (.getfield 21, 3) := by decide +kernel
theorem dX7_sungAt_38 : decode cX7_sungAt 38 = .ok (.if_icmp .ge 15, 3) := by decide +kernel
theorem dX7_sungAt_41 : decode cX7_sungAt 41 = .ok (.aload_n 0, 1) := by decide +kernel
theorem dX7_sungAt_42 : decode cX7_sungAt 42 = .ok (.getfield 12, 3) := by decide +kernel
theorem dX7_sungAt_45 : decode cX7_sungAt 45 = .ok (.getfield 25, 3) := by decide +kernel
theorem dX7_sungAt_48 : decode cX7_sungAt 48 = .ok (.iload_n 3, 1) := by decide +kernel
theorem dX7_sungAt_49 : decode cX7_sungAt 49 = .ok (.iaload, 1) := by decide +kernel
theorem dX7_sungAt_50 : decode cX7_sungAt 50 = .ok (.goto 20, 3) := by decide +kernel
theorem dX7_sungAt_53 : decode cX7_sungAt 53 = .ok (.aload_n 0, 1) := by decide +kernel
theorem dX7_sungAt_54 : decode cX7_sungAt 54 = .ok (.getfield 18, 3) := by decide +kernel
theorem dX7_sungAt_57 : decode cX7_sungAt 57 = .ok (.getfield 25, 3) := by decide +kernel
theorem dX7_sungAt_60 : decode cX7_sungAt 60 = .ok (.iload_n 3, 1) := by decide +kernel
theorem dX7_sungAt_61 : decode cX7_sungAt 61 = .ok (.aload_n 0, 1) := by decide +kernel
theorem dX7_sungAt_62 : decode cX7_sungAt 62 = .ok (.getfield 12, 3) := by decide +kernel
theorem dX7_sungAt_65 : decode cX7_sungAt 65 = .ok (.getfield 21, 3) := by decide +kernel
theorem dX7_sungAt_68 : decode cX7_sungAt 68 = .ok (.isub, 1) := by decide +kernel
theorem dX7_sungAt_69 : decode cX7_sungAt 69 = .ok (.iaload, 1) := by decide +kernel
theorem dX7_sungAt_70 : decode cX7_sungAt 70 = .ok (.ireturn, 1) := by decide +kernel
theorem dX11_beatAt_0 : decode cX11_beatAt 0 = .ok (.aload_n 0, 1) := by decide +kernel
theorem dX11_beatAt_1 : decode cX11_beatAt 1 = .ok (.iload_n 1, 1) := by decide +kernel
theorem dX11_beatAt_2 : decode cX11_beatAt 2 = .ok (.invokevirtual 106, 3) := by decide +kernel
theorem dX11_beatAt_5 : decode cX11_beatAt 5 = .ok (.astore_n 3, 1) := by decide +kernel
theorem dX11_beatAt_6 : decode cX11_beatAt 6 = .ok (.aload_n 3, 1) := by decide +kernel
theorem dX11_beatAt_7 : decode cX11_beatAt 7 = .ok (.ifnull 14, 3) := by decide +kernel
theorem dX11_beatAt_10 : decode cX11_beatAt 10 = .ok (.iload_n 2, 1) := by decide +kernel
theorem dX11_beatAt_11 : decode cX11_beatAt 11 = .ok (.iconst 0, 1) := by decide +kernel
theorem dX11_beatAt_12 : decode cX11_beatAt 12 = .ok (.sipush 1000, 3) := by decide +kernel
theorem dX11_beatAt_15 : decode cX11_beatAt 15 = .ok (.invokestatic 113, 3) := by decide +kernel
theorem dX11_beatAt_18 : decode cX11_beatAt 18 = .ok (.ifCond .ne 6, 3) := by decide +kernel
theorem dX11_beatAt_21 : decode cX11_beatAt 21 = .ok (.bipush (-2), 2) := by decide +kernel
theorem dX11_beatAt_23 : decode cX11_beatAt 23 = .ok (.ireturn, 1) := by decide +kernel
theorem dX11_beatAt_24 : decode cX11_beatAt 24 = .ok (.aload_n 3, 1) := by decide +kernel
theorem dX11_beatAt_25 : decode cX11_beatAt 25 = .ok (.iload_n 2, 1) := by decide +kernel
theorem dX11_beatAt_26 : decode cX11_beatAt 26 = .ok (.invokevirtual 117, 3) := by decide +kernel
theorem dX11_beatAt_29 : decode cX11_beatAt 29 = .ok (.ireturn, 1) := by decide +kernel
theorem dX11_copy_0 : decode cX11_copy 0 = .ok (.iconst 0, 1) := by decide +kernel
theorem dX11_copy_1 : decode cX11_copy 1 = .ok (.istore_n 2, 1) := by decide +kernel
theorem dX11_copy_2 : decode cX11_copy 2 = .ok (.iload_n 2, 1) := by decide +kernel
theorem dX11_copy_3 : decode cX11_copy 3 = .ok (.aload_n 0, 1) := by decide +kernel
theorem dX11_copy_4 : decode cX11_copy 4 = .ok (.arraylength, 1) := by decide +kernel
theorem dX11_copy_5 : decode cX11_copy 5 = .ok (.if_icmp .ge 21, 3) := by decide +kernel
theorem dX11_copy_8 : decode cX11_copy 8 = .ok (.iload_n 2, 1) := by decide +kernel
theorem dX11_copy_9 : decode cX11_copy 9 = .ok (.aload_n 1, 1) := by decide +kernel
theorem dX11_copy_10 : decode cX11_copy 10 = .ok (.arraylength, 1) := by decide +kernel
theorem dX11_copy_11 : decode cX11_copy 11 = .ok (.if_icmp .ge 15, 3) := by decide +kernel
theorem dX11_copy_14 : decode cX11_copy 14 = .ok (.aload_n 1, 1) := by decide +kernel
theorem dX11_copy_15 : decode cX11_copy 15 = .ok (.iload_n 2, 1) := by decide +kernel
theorem dX11_copy_16 : decode cX11_copy 16 = .ok (.aload_n 0, 1) := by decide +kernel
theorem dX11_copy_17 : decode cX11_copy 17 = .ok (.iload_n 2, 1) := by decide +kernel
theorem dX11_copy_18 : decode cX11_copy 18 = .ok (.iaload, 1) := by decide +kernel
theorem dX11_copy_19 : decode cX11_copy 19 = .ok (.iastore, 1) := by decide +kernel
theorem dX11_copy_20 : decode cX11_copy 20 = .ok (.iinc 2 1, 3) := by decide +kernel
theorem dX11_copy_23 : decode cX11_copy 23 = .ok (.goto (-21), 3) := by decide +kernel
theorem dX11_copy_26 : decode cX11_copy 26 = .ok (.return_, 1) := by decide +kernel
theorem dX1_beginAsTold_0 : decode cX1_beginAsTold 0 = .ok (.aload_n 1, 1) := by decide +kernel
theorem dX1_beginAsTold_1 : decode cX1_beginAsTold 1 = .ok (.getfield 27, 3) := by decide +kernel
theorem dX1_beginAsTold_4 : decode cX1_beginAsTold 4 = .ok (.aload_n 0, 1) := by decide +kernel
theorem dX1_beginAsTold_5 : decode cX1_beginAsTold 5 = .ok (.getfield 9, 3) := by decide +kernel
theorem dX1_beginAsTold_8 : decode cX1_beginAsTold 8 = .ok (.invokestatic 30, 3) := by decide +kernel
theorem dX1_beginAsTold_11 : decode cX1_beginAsTold 11 = .ok (.aload_n 1, 1) := by decide +kernel
theorem dX1_beginAsTold_12 : decode cX1_beginAsTold 12 = .ok (.getfield 34, 3) := by decide +kernel
theorem dX1_beginAsTold_15 : decode cX1_beginAsTold 15 = .ok (.aload_n 0, 1) := by decide +kernel
theorem dX1_beginAsTold_16 : decode cX1_beginAsTold 16 = .ok (.getfield 15, 3) := by decide +kernel
theorem dX1_beginAsTold_19 : decode cX1_beginAsTold 19 = .ok (.invokestatic 30, 3) := by decide +kernel
theorem dX1_beginAsTold_22 : decode cX1_beginAsTold 22 = .ok (.aload_n 0, 1) := by decide +kernel
theorem dX1_beginAsTold_23 : decode cX1_beginAsTold 23 = .ok (.aload_n 1, 1) := by decide +kernel
theorem dX1_beginAsTold_24 : decode cX1_beginAsTold 24 = .ok (.getfield 35, 3) := by decide +kernel
theorem dX1_beginAsTold_27 : decode cX1_beginAsTold 27 = .ok (.putfield 39, 3) := by decide +kernel
theorem dX1_beginAsTold_30 : decode cX1_beginAsTold 30 = .ok (.aload_n 0, 1) := by decide +kernel
theorem dX1_beginAsTold_31 : decode cX1_beginAsTold 31 = .ok (.aload_n 1, 1) := by decide +kernel
theorem dX1_beginAsTold_32 : decode cX1_beginAsTold 32 = .ok (.getfield 40, 3) := by decide +kernel
theorem dX1_beginAsTold_35 : decode cX1_beginAsTold 35 = .ok (.putfield 43, 3) := by decide +kernel
theorem dX1_beginAsTold_38 : decode cX1_beginAsTold 38 = .ok (.return_, 1) := by decide +kernel
theorem dX11_isIn_0 : decode cX11_isIn 0 = .ok (.iload_n 0, 1) := by decide +kernel
theorem dX11_isIn_1 : decode cX11_isIn 1 = .ok (.iload_n 1, 1) := by decide +kernel
theorem dX11_isIn_2 : decode cX11_isIn 2 = .ok (.ishr, 1) := by decide +kernel
theorem dX11_isIn_3 : decode cX11_isIn 3 = .ok (.iconst 1, 1) := by decide +kernel
theorem dX11_isIn_4 : decode cX11_isIn 4 = .ok (.iand, 1) := by decide +kernel
theorem dX11_isIn_5 : decode cX11_isIn 5 = .ok (.iconst 1, 1) := by decide +kernel
theorem dX11_isIn_6 : decode cX11_isIn 6 = .ok (.if_icmp .ne 7, 3) := by decide +kernel
theorem dX11_isIn_9 : decode cX11_isIn 9 = .ok (.iconst 1, 1) := by decide +kernel
theorem dX11_isIn_10 : decode cX11_isIn 10 = .ok (.goto 4, 3) := by decide +kernel
theorem dX11_isIn_13 : decode cX11_isIn 13 = .ok (.iconst 0, 1) := by decide +kernel
theorem dX11_isIn_14 : decode cX11_isIn 14 = .ok (.ireturn, 1) := by decide +kernel
theorem dX1_gatherByLate_0 : decode cX1_gatherByLate 0 = .ok (.iconst 0, 1) := by decide +kernel
theorem dX1_gatherByLate_1 : decode cX1_gatherByLate 1 = .ok (.istore_n 2, 1) := by decide +kernel
theorem dX1_gatherByLate_2 : decode cX1_gatherByLate 2 = .ok (.iload_n 2, 1) := by decide +kernel
theorem dX1_gatherByLate_3 : decode cX1_gatherByLate 3 = .ok (.iconst 3, 1) := by decide +kernel
theorem dX1_gatherByLate_4 : decode cX1_gatherByLate 4 = .ok (.if_icmp .gt 16, 3) := by decide +kernel
theorem dX1_gatherByLate_7 : decode cX1_gatherByLate 7 = .ok (.aload_n 0, 1) := by decide +kernel
theorem dX1_gatherByLate_8 : decode cX1_gatherByLate 8 = .ok (.getfield 24, 3) := by decide +kernel
theorem dX1_gatherByLate_11 : decode cX1_gatherByLate 11 = .ok (.iload_n 2, 1) := by decide +kernel
theorem dX1_gatherByLate_12 : decode cX1_gatherByLate 12 = .ok (.iconst 0, 1) := by decide +kernel
theorem dX1_gatherByLate_13 : decode cX1_gatherByLate 13 = .ok (.iastore, 1) := by decide +kernel
theorem dX1_gatherByLate_14 : decode cX1_gatherByLate 14 = .ok (.iinc 2 1, 3) := by decide +kernel
theorem dX1_gatherByLate_17 : decode cX1_gatherByLate 17 = .ok (.goto (-15), 3) := by decide +kernel
theorem dX1_gatherByLate_20 : decode cX1_gatherByLate 20 = .ok (.iconst 0, 1) := by decide +kernel
theorem dX1_gatherByLate_21 : decode cX1_gatherByLate 21 = .ok (.istore_n 2, 1) := by decide +kernel
theorem dX1_gatherByLate_22 : decode cX1_gatherByLate 22 = .ok (.iload_n 2, 1) := by decide +kernel
theorem dX1_gatherByLate_23 : decode cX1_gatherByLate 23 = .ok (.iload_n 1, 1) := by decide +kernel
theorem dX1_gatherByLate_24 : decode cX1_gatherByLate 24 = .ok (.if_icmp .ge 51, 3) := by decide +kernel
theorem dX1_gatherByLate_27 : decode cX1_gatherByLate 27 = .ok (.aload_n 0, 1) := by decide +kernel
theorem dX1_gatherByLate_28 : decode cX1_gatherByLate 28 = .ok (.getfield 39, 3) := by decide +kernel
theorem dX1_gatherByLate_31 : decode cX1_gatherByLate 31 = .ok (.iload_n 2, 1) := by decide +kernel
theorem dX1_gatherByLate_32 : decode cX1_gatherByLate 32 = .ok (.invokestatic 84, 3) := by decide +kernel
theorem dX1_gatherByLate_35 : decode cX1_gatherByLate 35 = .ok (.ifCond .eq 34, 3) := by decide +kernel
theorem dX1_gatherByLate_38 : decode cX1_gatherByLate 38 = .ok (.aload_n 0, 1) := by decide +kernel
theorem dX1_gatherByLate_39 : decode cX1_gatherByLate 39 = .ok (.getfield 15, 3) := by decide +kernel
theorem dX1_gatherByLate_42 : decode cX1_gatherByLate 42 = .ok (.iload_n 2, 1) := by decide +kernel
theorem dX1_gatherByLate_43 : decode cX1_gatherByLate 43 = .ok (.iaload, 1) := by decide +kernel
theorem dX1_gatherByLate_44 : decode cX1_gatherByLate 44 = .ok (.iconst 0, 1) := by decide +kernel
theorem dX1_gatherByLate_45 : decode cX1_gatherByLate 45 = .ok (.iconst 3, 1) := by decide +kernel
theorem dX1_gatherByLate_46 : decode cX1_gatherByLate 46 = .ok (.invokestatic 88, 3) := by decide +kernel
theorem dX1_gatherByLate_49 : decode cX1_gatherByLate 49 = .ok (.ifCond .eq 20, 3) := by decide +kernel
theorem dX1_gatherByLate_52 : decode cX1_gatherByLate 52 = .ok (.aload_n 0, 1) := by decide +kernel
theorem dX1_gatherByLate_53 : decode cX1_gatherByLate 53 = .ok (.getfield 24, 3) := by decide +kernel
theorem dX1_gatherByLate_56 : decode cX1_gatherByLate 56 = .ok (.aload_n 0, 1) := by decide +kernel
theorem dX1_gatherByLate_57 : decode cX1_gatherByLate 57 = .ok (.getfield 15, 3) := by decide +kernel
theorem dX1_gatherByLate_60 : decode cX1_gatherByLate 60 = .ok (.iload_n 2, 1) := by decide +kernel
theorem dX1_gatherByLate_61 : decode cX1_gatherByLate 61 = .ok (.iaload, 1) := by decide +kernel
theorem dX1_gatherByLate_62 : decode cX1_gatherByLate 62 = .ok (.dup2, 1) := by decide +kernel
theorem dX1_gatherByLate_63 : decode cX1_gatherByLate 63 = .ok (.iaload, 1) := by decide +kernel
theorem dX1_gatherByLate_64 : decode cX1_gatherByLate 64 = .ok (.iconst 1, 1) := by decide +kernel
theorem dX1_gatherByLate_65 : decode cX1_gatherByLate 65 = .ok (.iload_n 2, 1) := by decide +kernel
theorem dX1_gatherByLate_66 : decode cX1_gatherByLate 66 = .ok (.ishl, 1) := by decide +kernel
theorem dX1_gatherByLate_67 : decode cX1_gatherByLate 67 = .ok (.ior, 1) := by decide +kernel
theorem dX1_gatherByLate_68 : decode cX1_gatherByLate 68 = .ok (.iastore, 1) := by decide +kernel
theorem dX1_gatherByLate_69 : decode cX1_gatherByLate 69 = .ok (.iinc 2 1, 3) := by decide +kernel
theorem dX1_gatherByLate_72 : decode cX1_gatherByLate 72 = .ok (.goto (-50), 3) := by decide +kernel
theorem dX1_gatherByLate_75 : decode cX1_gatherByLate 75 = .ok (.return_, 1) := by decide +kernel
theorem dX1_pullersAt_0 : decode cX1_pullersAt 0 = .ok (.iconst 0, 1) := by decide +kernel
theorem dX1_pullersAt_1 : decode cX1_pullersAt 1 = .ok (.istore_n 3, 1) := by decide +kernel
theorem dX1_pullersAt_2 : decode cX1_pullersAt 2 = .ok (.iconst 0, 1) := by decide +kernel
theorem dX1_pullersAt_3 : decode cX1_pullersAt 3 = .ok (.istore 4, 2) := by decide +kernel
theorem dX1_pullersAt_5 : decode cX1_pullersAt 5 = .ok (.iload 4, 2) := by decide +kernel
theorem dX1_pullersAt_7 : decode cX1_pullersAt 7 = .ok (.iconst 3, 1) := by decide +kernel
theorem dX1_pullersAt_8 : decode cX1_pullersAt 8 = .ok (.if_icmp .gt 47, 3) := by decide +kernel
theorem dX1_pullersAt_11 : decode cX1_pullersAt 11 = .ok (.iload 4, 2) := by decide +kernel
theorem dX1_pullersAt_13 : decode cX1_pullersAt 13 = .ok (.iload_n 2, 1) := by decide +kernel
theorem dX1_pullersAt_14 : decode cX1_pullersAt 14 = .ok (.if_icmp .gt 41, 3) := by decide +kernel
theorem dX1_pullersAt_17 : decode cX1_pullersAt 17 = .ok (.aload_n 0, 1) := by decide +kernel
theorem dX1_pullersAt_18 : decode cX1_pullersAt 18 = .ok (.getfield 24, 3) := by decide +kernel
theorem dX1_pullersAt_21 : decode cX1_pullersAt 21 = .ok (.iload 4, 2) := by decide +kernel
theorem dX1_pullersAt_23 : decode cX1_pullersAt 23 = .ok (.iaload, 1) := by decide +kernel
theorem dX1_pullersAt_24 : decode cX1_pullersAt 24 = .ok (.ifCond .eq 25, 3) := by decide +kernel
theorem dX1_pullersAt_27 : decode cX1_pullersAt 27 = .ok (.aload_n 1, 1) := by decide +kernel
theorem dX1_pullersAt_28 : decode cX1_pullersAt 28 = .ok (.iload_n 2, 1) := by decide +kernel
theorem dX1_pullersAt_29 : decode cX1_pullersAt 29 = .ok (.iload 4, 2) := by decide +kernel
theorem dX1_pullersAt_31 : decode cX1_pullersAt 31 = .ok (.isub, 1) := by decide +kernel
theorem dX1_pullersAt_32 : decode cX1_pullersAt 32 = .ok (.invokevirtual 61, 3) := by decide +kernel
theorem dX1_pullersAt_35 : decode cX1_pullersAt 35 = .ok (.iconst 2, 1) := by decide +kernel
theorem dX1_pullersAt_36 : decode cX1_pullersAt 36 = .ok (.if_icmp .ne 13, 3) := by decide +kernel
theorem dX1_pullersAt_39 : decode cX1_pullersAt 39 = .ok (.iload_n 3, 1) := by decide +kernel
theorem dX1_pullersAt_40 : decode cX1_pullersAt 40 = .ok (.aload_n 0, 1) := by decide +kernel
theorem dX1_pullersAt_41 : decode cX1_pullersAt 41 = .ok (.getfield 24, 3) := by decide +kernel
theorem dX1_pullersAt_44 : decode cX1_pullersAt 44 = .ok (.iload 4, 2) := by decide +kernel
theorem dX1_pullersAt_46 : decode cX1_pullersAt 46 = .ok (.iaload, 1) := by decide +kernel
theorem dX1_pullersAt_47 : decode cX1_pullersAt 47 = .ok (.ior, 1) := by decide +kernel
theorem dX1_pullersAt_48 : decode cX1_pullersAt 48 = .ok (.istore_n 3, 1) := by decide +kernel
theorem dX1_pullersAt_49 : decode cX1_pullersAt 49 = .ok (.iinc 4 1, 3) := by decide +kernel
theorem dX1_pullersAt_52 : decode cX1_pullersAt 52 = .ok (.goto (-47), 3) := by decide +kernel
theorem dX1_pullersAt_55 : decode cX1_pullersAt 55 = .ok (.iload_n 3, 1) := by decide +kernel
theorem dX1_pullersAt_56 : decode cX1_pullersAt 56 = .ok (.ireturn, 1) := by decide +kernel
theorem dX1_comesBack_0 : decode cX1_comesBack 0 = .ok (.iload_n 3, 1) := by decide +kernel
theorem dX1_comesBack_1 : decode cX1_comesBack 1 = .ok (.ifCond .eq 14, 3) := by decide +kernel
theorem dX1_comesBack_4 : decode cX1_comesBack 4 = .ok (.aload_n 0, 1) := by decide +kernel
theorem dX1_comesBack_5 : decode cX1_comesBack 5 = .ok (.getfield 39, 3) := by decide +kernel
theorem dX1_comesBack_8 : decode cX1_comesBack 8 = .ok (.iload_n 2, 1) := by decide +kernel
theorem dX1_comesBack_9 : decode cX1_comesBack 9 = .ok (.invokestatic 84, 3) := by decide +kernel
theorem dX1_comesBack_12 : decode cX1_comesBack 12 = .ok (.ifCond .ne 10, 3) := by decide +kernel
theorem dX1_comesBack_15 : decode cX1_comesBack 15 = .ok (.aload_n 1, 1) := by decide +kernel
theorem dX1_comesBack_16 : decode cX1_comesBack 16 = .ok (.getfield 106, 3) := by decide +kernel
theorem dX1_comesBack_19 : decode cX1_comesBack 19 = .ok (.iload_n 2, 1) := by decide +kernel
theorem dX1_comesBack_20 : decode cX1_comesBack 20 = .ok (.iaload, 1) := by decide +kernel
theorem dX1_comesBack_21 : decode cX1_comesBack 21 = .ok (.ireturn, 1) := by decide +kernel
theorem dX1_comesBack_22 : decode cX1_comesBack 22 = .ok (.iload_n 3, 1) := by decide +kernel
theorem dX1_comesBack_23 : decode cX1_comesBack 23 = .ok (.iconst 3, 1) := by decide +kernel
theorem dX1_comesBack_24 : decode cX1_comesBack 24 = .ok (.if_icmp .ne 12, 3) := by decide +kernel
theorem dX1_comesBack_27 : decode cX1_comesBack 27 = .ok (.aload_n 1, 1) := by decide +kernel
theorem dX1_comesBack_28 : decode cX1_comesBack 28 = .ok (.getfield 109, 3) := by decide +kernel
theorem dX1_comesBack_31 : decode cX1_comesBack 31 = .ok (.iload_n 2, 1) := by decide +kernel
theorem dX1_comesBack_32 : decode cX1_comesBack 32 = .ok (.iaload, 1) := by decide +kernel
theorem dX1_comesBack_33 : decode cX1_comesBack 33 = .ok (.goto 4, 3) := by decide +kernel
theorem dX1_comesBack_36 : decode cX1_comesBack 36 = .ok (.iconst 0, 1) := by decide +kernel
theorem dX1_comesBack_37 : decode cX1_comesBack 37 = .ok (.ireturn, 1) := by decide +kernel
theorem dX1_pull_0 : decode cX1_pull 0 = .ok (.iconst 0, 1) := by decide +kernel
theorem dX1_pull_1 : decode cX1_pull 1 = .ok (.istore 4, 2) := by decide +kernel
theorem dX1_pull_3 : decode cX1_pull 3 = .ok (.iconst 0, 1) := by decide +kernel
theorem dX1_pull_4 : decode cX1_pull 4 = .ok (.istore 5, 2) := by decide +kernel
theorem dX1_pull_6 : decode cX1_pull 6 = .ok (.iload 5, 2) := by decide +kernel
theorem dX1_pull_8 : decode cX1_pull 8 = .ok (.aload_n 1, 1) := by decide +kernel
theorem dX1_pull_9 : decode cX1_pull 9 = .ok (.getfield 50, 3) := by decide +kernel
theorem dX1_pull_12 : decode cX1_pull 12 = .ok (.if_icmp .ge 98, 3) := by decide +kernel
theorem dX1_pull_15 : decode cX1_pull 15 = .ok (.aload_n 0, 1) := by decide +kernel
theorem dX1_pull_16 : decode cX1_pull 16 = .ok (.getfield 9, 3) := by decide +kernel
theorem dX1_pull_19 : decode cX1_pull 19 = .ok (.iload 5, 2) := by decide +kernel
theorem dX1_pull_21 : decode cX1_pull 21 = .ok (.iaload, 1) := by decide +kernel
theorem dX1_pull_22 : decode cX1_pull 22 = .ok (.istore 6, 2) := by decide +kernel
theorem dX1_pull_24 : decode cX1_pull 24 = .ok (.iload_n 2, 1) := by decide +kernel
theorem dX1_pull_25 : decode cX1_pull 25 = .ok (.iload 5, 2) := by decide +kernel
theorem dX1_pull_27 : decode cX1_pull 27 = .ok (.invokestatic 84, 3) := by decide +kernel
theorem dX1_pull_30 : decode cX1_pull 30 = .ok (.ifCond .eq 34, 3) := by decide +kernel
theorem dX1_pull_33 : decode cX1_pull 33 = .ok (.iload 4, 2) := by decide +kernel
theorem dX1_pull_35 : decode cX1_pull 35 = .ok (.iload 6, 2) := by decide +kernel
theorem dX1_pull_37 : decode cX1_pull 37 = .ok (.iadd, 1) := by decide +kernel
theorem dX1_pull_38 : decode cX1_pull 38 = .ok (.istore 4, 2) := by decide +kernel
theorem dX1_pull_40 : decode cX1_pull 40 = .ok (.aload_n 0, 1) := by decide +kernel
theorem dX1_pull_41 : decode cX1_pull 41 = .ok (.getfield 9, 3) := by decide +kernel
theorem dX1_pull_44 : decode cX1_pull 44 = .ok (.iload 5, 2) := by decide +kernel
theorem dX1_pull_46 : decode cX1_pull 46 = .ok (.iconst 0, 1) := by decide +kernel
theorem dX1_pull_47 : decode cX1_pull 47 = .ok (.iload 6, 2) := by decide +kernel
theorem dX1_pull_49 : decode cX1_pull 49 = .ok (.aload_n 1, 1) := by decide +kernel
theorem dX1_pull_50 : decode cX1_pull 50 = .ok (.getfield 92, 3) := by decide +kernel
theorem dX1_pull_53 : decode cX1_pull 53 = .ok (.iload 5, 2) := by decide +kernel
theorem dX1_pull_55 : decode cX1_pull 55 = .ok (.iaload, 1) := by decide +kernel
theorem dX1_pull_56 : decode cX1_pull 56 = .ok (.isub, 1) := by decide +kernel
theorem dX1_pull_57 : decode cX1_pull 57 = .ok (.invokestatic 95, 3) := by decide +kernel
theorem dX1_pull_60 : decode cX1_pull 60 = .ok (.iastore, 1) := by decide +kernel
theorem dX1_pull_61 : decode cX1_pull 61 = .ok (.goto 43, 3) := by decide +kernel
theorem dX1_pull_64 : decode cX1_pull 64 = .ok (.iload 6, 2) := by decide +kernel
theorem dX1_pull_66 : decode cX1_pull 66 = .ok (.aload_n 1, 1) := by decide +kernel
theorem dX1_pull_67 : decode cX1_pull 67 = .ok (.getfield 44, 3) := by decide +kernel
theorem dX1_pull_70 : decode cX1_pull 70 = .ok (.iload 5, 2) := by decide +kernel
theorem dX1_pull_72 : decode cX1_pull 72 = .ok (.iaload, 1) := by decide +kernel
theorem dX1_pull_73 : decode cX1_pull 73 = .ok (.if_icmp .ge 31, 3) := by decide +kernel
theorem dX1_pull_76 : decode cX1_pull 76 = .ok (.aload_n 0, 1) := by decide +kernel
theorem dX1_pull_77 : decode cX1_pull 77 = .ok (.getfield 9, 3) := by decide +kernel
theorem dX1_pull_80 : decode cX1_pull 80 = .ok (.iload 5, 2) := by decide +kernel
theorem dX1_pull_82 : decode cX1_pull 82 = .ok (.aload_n 1, 1) := by decide +kernel
theorem dX1_pull_83 : decode cX1_pull 83 = .ok (.getfield 44, 3) := by decide +kernel
theorem dX1_pull_86 : decode cX1_pull 86 = .ok (.iload 5, 2) := by decide +kernel
theorem dX1_pull_88 : decode cX1_pull 88 = .ok (.iaload, 1) := by decide +kernel
theorem dX1_pull_89 : decode cX1_pull 89 = .ok (.iload 6, 2) := by decide +kernel
theorem dX1_pull_91 : decode cX1_pull 91 = .ok (.aload_n 0, 1) := by decide +kernel
theorem dX1_pull_92 : decode cX1_pull 92 = .ok (.aload_n 1, 1) := by decide +kernel
theorem dX1_pull_93 : decode cX1_pull 93 = .ok (.iload 5, 2) := by decide +kernel
theorem dX1_pull_95 : decode cX1_pull 95 = .ok (.iload_n 3, 1) := by decide +kernel
theorem dX1_pull_96 : decode cX1_pull 96 = .ok (.invokevirtual 100, 3) := by decide +kernel
theorem dX1_pull_99 : decode cX1_pull 99 = .ok (.iadd, 1) := by decide +kernel
theorem dX1_pull_100 : decode cX1_pull 100 = .ok (.invokestatic 103, 3) := by decide +kernel
theorem dX1_pull_103 : decode cX1_pull 103 = .ok (.iastore, 1) := by decide +kernel
theorem dX1_pull_104 : decode cX1_pull 104 = .ok (.iinc 5 1, 3) := by decide +kernel
theorem dX1_pull_107 : decode cX1_pull 107 = .ok (.goto (-101), 3) := by decide +kernel
theorem dX1_pull_110 : decode cX1_pull 110 = .ok (.iload 4, 2) := by decide +kernel
theorem dX1_pull_112 : decode cX1_pull 112 = .ok (.ireturn, 1) := by decide +kernel
theorem dX8_wonBehind_0 : decode cX8_wonBehind 0 = .ok (.iload_n 2, 1) := by decide +kernel
theorem dX8_wonBehind_1 : decode cX8_wonBehind 1 = .ok (.aload_n 0, 1) := by decide +kernel
theorem dX8_wonBehind_2 : decode cX8_wonBehind 2 = .ok (.getfield 13, 3) := by decide +kernel
theorem dX8_wonBehind_5 : decode cX8_wonBehind 5 = .ok (.if_icmp .le 17, 3) := by decide +kernel
theorem dX8_wonBehind_8 : decode cX8_wonBehind 8 = .ok (.iload_n 1, 1) := by decide +kernel
theorem dX8_wonBehind_9 : decode cX8_wonBehind 9 = .ok (.iload_n 2, 1) := by decide +kernel
theorem dX8_wonBehind_10 : decode cX8_wonBehind 10 = .ok (.aload_n 0, 1) := by decide +kernel
theorem dX8_wonBehind_11 : decode cX8_wonBehind 11 = .ok (.getfield 13, 3) := by decide +kernel
theorem dX8_wonBehind_14 : decode cX8_wonBehind 14 = .ok (.isub, 1) := by decide +kernel
theorem dX8_wonBehind_15 : decode cX8_wonBehind 15 = .ok (.bipush 10, 2) := by decide +kernel
theorem dX8_wonBehind_17 : decode cX8_wonBehind 17 = .ok (.idiv, 1) := by decide +kernel
theorem dX8_wonBehind_18 : decode cX8_wonBehind 18 = .ok (.iadd, 1) := by decide +kernel
theorem dX8_wonBehind_19 : decode cX8_wonBehind 19 = .ok (.goto 13, 3) := by decide +kernel
theorem dX8_wonBehind_22 : decode cX8_wonBehind 22 = .ok (.iconst 0, 1) := by decide +kernel
theorem dX8_wonBehind_23 : decode cX8_wonBehind 23 = .ok (.iload_n 1, 1) := by decide +kernel
theorem dX8_wonBehind_24 : decode cX8_wonBehind 24 = .ok (.aload_n 0, 1) := by decide +kernel
theorem dX8_wonBehind_25 : decode cX8_wonBehind 25 = .ok (.getfield 16, 3) := by decide +kernel
theorem dX8_wonBehind_28 : decode cX8_wonBehind 28 = .ok (.isub, 1) := by decide +kernel
theorem dX8_wonBehind_29 : decode cX8_wonBehind 29 = .ok (.invokestatic 19, 3) := by decide +kernel
theorem dX8_wonBehind_32 : decode cX8_wonBehind 32 = .ok (.ireturn, 1) := by decide +kernel
theorem dX1_isBelowFloor_0 : decode cX1_isBelowFloor 0 = .ok (.aload_n 0, 1) := by decide +kernel
theorem dX1_isBelowFloor_1 : decode cX1_isBelowFloor 1 = .ok (.getfield 43, 3) := by decide +kernel
theorem dX1_isBelowFloor_4 : decode cX1_isBelowFloor 4 = .ok (.ifCond .gt 5, 3) := by decide +kernel
theorem dX1_isBelowFloor_7 : decode cX1_isBelowFloor 7 = .ok (.iconst 0, 1) := by decide +kernel
theorem dX1_isBelowFloor_8 : decode cX1_isBelowFloor 8 = .ok (.ireturn, 1) := by decide +kernel
theorem dX1_isBelowFloor_9 : decode cX1_isBelowFloor 9 = .ok (.iconst 0, 1) := by decide +kernel
theorem dX1_isBelowFloor_10 : decode cX1_isBelowFloor 10 = .ok (.istore_n 2, 1) := by decide +kernel
theorem dX1_isBelowFloor_11 : decode cX1_isBelowFloor 11 = .ok (.iload_n 2, 1) := by decide +kernel
theorem dX1_isBelowFloor_12 : decode cX1_isBelowFloor 12 = .ok (.iload_n 1, 1) := by decide +kernel
theorem dX1_isBelowFloor_13 : decode cX1_isBelowFloor 13 = .ok (.if_icmp .ge 35, 3) := by decide +kernel
theorem dX1_isBelowFloor_16 : decode cX1_isBelowFloor 16 = .ok (.aload_n 0, 1) := by decide +kernel
theorem dX1_isBelowFloor_17 : decode cX1_isBelowFloor 17 = .ok (.getfield 39, 3) := by decide +kernel
theorem dX1_isBelowFloor_20 : decode cX1_isBelowFloor 20 = .ok (.iload_n 2, 1) := by decide +kernel
theorem dX1_isBelowFloor_21 : decode cX1_isBelowFloor 21 = .ok (.invokestatic 84, 3) := by decide +kernel
theorem dX1_isBelowFloor_24 : decode cX1_isBelowFloor 24 = .ok (.ifCond .eq 18, 3) := by decide +kernel
theorem dX1_isBelowFloor_27 : decode cX1_isBelowFloor 27 = .ok (.aload_n 0, 1) := by decide +kernel
theorem dX1_isBelowFloor_28 : decode cX1_isBelowFloor 28 = .ok (.getfield 9, 3) := by decide +kernel
theorem dX1_isBelowFloor_31 : decode cX1_isBelowFloor 31 = .ok (.iload_n 2, 1) := by decide +kernel
theorem dX1_isBelowFloor_32 : decode cX1_isBelowFloor 32 = .ok (.iaload, 1) := by decide +kernel
theorem dX1_isBelowFloor_33 : decode cX1_isBelowFloor 33 = .ok (.aload_n 0, 1) := by decide +kernel
theorem dX1_isBelowFloor_34 : decode cX1_isBelowFloor 34 = .ok (.getfield 43, 3) := by decide +kernel
theorem dX1_isBelowFloor_37 : decode cX1_isBelowFloor 37 = .ok (.if_icmp .ge 5, 3) := by decide +kernel
theorem dX1_isBelowFloor_40 : decode cX1_isBelowFloor 40 = .ok (.iconst 1, 1) := by decide +kernel
theorem dX1_isBelowFloor_41 : decode cX1_isBelowFloor 41 = .ok (.ireturn, 1) := by decide +kernel
theorem dX1_isBelowFloor_42 : decode cX1_isBelowFloor 42 = .ok (.iinc 2 1, 3) := by decide +kernel
theorem dX1_isBelowFloor_45 : decode cX1_isBelowFloor 45 = .ok (.goto (-34), 3) := by decide +kernel
theorem dX1_isBelowFloor_48 : decode cX1_isBelowFloor 48 = .ok (.iconst 0, 1) := by decide +kernel
theorem dX1_isBelowFloor_49 : decode cX1_isBelowFloor 49 = .ok (.ireturn, 1) := by decide +kernel
theorem dX1_go_0 : decode cX1_go 0 = .ok (.iconst 0, 1) := by decide +kernel
theorem dX1_go_1 : decode cX1_go 1 = .ok (.istore 5, 2) := by decide +kernel
theorem dX1_go_3 : decode cX1_go 3 = .ok (.aload_n 0, 1) := by decide +kernel
theorem dX1_go_4 : decode cX1_go 4 = .ok (.iconst 0, 1) := by decide +kernel
theorem dX1_go_5 : decode cX1_go 5 = .ok (.putfield 47, 3) := by decide +kernel
theorem dX1_go_8 : decode cX1_go 8 = .ok (.aload_n 0, 1) := by decide +kernel
theorem dX1_go_9 : decode cX1_go 9 = .ok (.aload_n 1, 1) := by decide +kernel
theorem dX1_go_10 : decode cX1_go 10 = .ok (.getfield 50, 3) := by decide +kernel
theorem dX1_go_13 : decode cX1_go 13 = .ok (.invokevirtual 53, 3) := by decide +kernel
theorem dX1_go_16 : decode cX1_go 16 = .ok (.iconst 0, 1) := by decide +kernel
theorem dX1_go_17 : decode cX1_go 17 = .ok (.istore 6, 2) := by decide +kernel
theorem dX1_go_19 : decode cX1_go 19 = .ok (.iload 6, 2) := by decide +kernel
theorem dX1_go_21 : decode cX1_go 21 = .ok (.iload 4, 2) := by decide +kernel
theorem dX1_go_23 : decode cX1_go 23 = .ok (.if_icmp .ge 97, 3) := by decide +kernel
theorem dX1_go_26 : decode cX1_go 26 = .ok (.iload 6, 2) := by decide +kernel
theorem dX1_go_28 : decode cX1_go 28 = .ok (.sipush 300, 3) := by decide +kernel
theorem dX1_go_31 : decode cX1_go 31 = .ok (.if_icmp .ge 89, 3) := by decide +kernel
theorem dX1_go_34 : decode cX1_go 34 = .ok (.aload_n 0, 1) := by decide +kernel
theorem dX1_go_35 : decode cX1_go 35 = .ok (.aload_n 1, 1) := by decide +kernel
theorem dX1_go_36 : decode cX1_go 36 = .ok (.aload_n 0, 1) := by decide +kernel
theorem dX1_go_37 : decode cX1_go 37 = .ok (.aload_n 2, 1) := by decide +kernel
theorem dX1_go_38 : decode cX1_go 38 = .ok (.iload 6, 2) := by decide +kernel
theorem dX1_go_40 : decode cX1_go 40 = .ok (.invokevirtual 57, 3) := by decide +kernel
theorem dX1_go_43 : decode cX1_go 43 = .ok (.aload_n 2, 1) := by decide +kernel
theorem dX1_go_44 : decode cX1_go 44 = .ok (.iload 6, 2) := by decide +kernel
theorem dX1_go_46 : decode cX1_go 46 = .ok (.invokevirtual 61, 3) := by decide +kernel
theorem dX1_go_49 : decode cX1_go 49 = .ok (.invokevirtual 67, 3) := by decide +kernel
theorem dX1_go_52 : decode cX1_go 52 = .ok (.istore 7, 2) := by decide +kernel
theorem dX1_go_54 : decode cX1_go 54 = .ok (.aload_n 3, 1) := by decide +kernel
theorem dX1_go_55 : decode cX1_go 55 = .ok (.iload 5, 2) := by decide +kernel
theorem dX1_go_57 : decode cX1_go 57 = .ok (.iload 7, 2) := by decide +kernel
theorem dX1_go_59 : decode cX1_go 59 = .ok (.invokevirtual 71, 3) := by decide +kernel
theorem dX1_go_62 : decode cX1_go 62 = .ok (.istore 5, 2) := by decide +kernel
theorem dX1_go_64 : decode cX1_go 64 = .ok (.aload_n 0, 1) := by decide +kernel
theorem dX1_go_65 : decode cX1_go 65 = .ok (.getfield 18, 3) := by decide +kernel
theorem dX1_go_68 : decode cX1_go 68 = .ok (.iload 6, 2) := by decide +kernel
theorem dX1_go_70 : decode cX1_go 70 = .ok (.iload 5, 2) := by decide +kernel
theorem dX1_go_72 : decode cX1_go 72 = .ok (.iastore, 1) := by decide +kernel
theorem dX1_go_73 : decode cX1_go 73 = .ok (.aload_n 0, 1) := by decide +kernel
theorem dX1_go_74 : decode cX1_go 74 = .ok (.getfield 21, 3) := by decide +kernel
theorem dX1_go_77 : decode cX1_go 77 = .ok (.iload 6, 2) := by decide +kernel
theorem dX1_go_79 : decode cX1_go 79 = .ok (.iload 7, 2) := by decide +kernel
theorem dX1_go_81 : decode cX1_go 81 = .ok (.iastore, 1) := by decide +kernel
theorem dX1_go_82 : decode cX1_go 82 = .ok (.aload_n 0, 1) := by decide +kernel
theorem dX1_go_83 : decode cX1_go 83 = .ok (.iload 6, 2) := by decide +kernel
theorem dX1_go_85 : decode cX1_go 85 = .ok (.iconst 1, 1) := by decide +kernel
theorem dX1_go_86 : decode cX1_go 86 = .ok (.iadd, 1) := by decide +kernel
theorem dX1_go_87 : decode cX1_go 87 = .ok (.putfield 47, 3) := by decide +kernel
theorem dX1_go_90 : decode cX1_go 90 = .ok (.aload_n 0, 1) := by decide +kernel
theorem dX1_go_91 : decode cX1_go 91 = .ok (.aload_n 1, 1) := by decide +kernel
theorem dX1_go_92 : decode cX1_go 92 = .ok (.getfield 50, 3) := by decide +kernel
theorem dX1_go_95 : decode cX1_go 95 = .ok (.invokevirtual 77, 3) := by decide +kernel
theorem dX1_go_98 : decode cX1_go 98 = .ok (.ifCond .eq 5, 3) := by decide +kernel
theorem dX1_go_101 : decode cX1_go 101 = .ok (.iconst 0, 1) := by decide +kernel
theorem dX1_go_102 : decode cX1_go 102 = .ok (.ireturn, 1) := by decide +kernel
theorem dX1_go_103 : decode cX1_go 103 = .ok (.iload 5, 2) := by decide +kernel
theorem dX1_go_105 : decode cX1_go 105 = .ok (.aload_n 3, 1) := by decide +kernel
theorem dX1_go_106 : decode cX1_go 106 = .ok (.getfield 81, 3) := by decide +kernel
theorem dX1_go_109 : decode cX1_go 109 = .ok (.if_icmp .lt 5, 3) := by decide +kernel
theorem dX1_go_112 : decode cX1_go 112 = .ok (.iconst 1, 1) := by decide +kernel
theorem dX1_go_113 : decode cX1_go 113 = .ok (.ireturn, 1) := by decide +kernel
theorem dX1_go_114 : decode cX1_go 114 = .ok (.iinc 6 1, 3) := by decide +kernel
theorem dX1_go_117 : decode cX1_go 117 = .ok (.goto (-98), 3) := by decide +kernel
theorem dX1_go_120 : decode cX1_go 120 = .ok (.iconst 0, 1) := by decide +kernel
theorem dX1_go_121 : decode cX1_go 121 = .ok (.ireturn, 1) := by decide +kernel
theorem dX1_leastNow_0 : decode cX1_leastNow 0 = .ok (.bipush 100, 2) := by decide +kernel
theorem dX1_leastNow_2 : decode cX1_leastNow 2 = .ok (.istore_n 2, 1) := by decide +kernel
theorem dX1_leastNow_3 : decode cX1_leastNow 3 = .ok (.iconst 0, 1) := by decide +kernel
theorem dX1_leastNow_4 : decode cX1_leastNow 4 = .ok (.istore_n 3, 1) := by decide +kernel
theorem dX1_leastNow_5 : decode cX1_leastNow 5 = .ok (.iload_n 3, 1) := by decide +kernel
theorem dX1_leastNow_6 : decode cX1_leastNow 6 = .ok (.iload_n 1, 1) := by decide +kernel
theorem dX1_leastNow_7 : decode cX1_leastNow 7 = .ok (.if_icmp .ge 20, 3) := by decide +kernel
theorem dX1_leastNow_10 : decode cX1_leastNow 10 = .ok (.iload_n 2, 1) := by decide +kernel
theorem dX1_leastNow_11 : decode cX1_leastNow 11 = .ok (.aload_n 0, 1) := by decide +kernel
theorem dX1_leastNow_12 : decode cX1_leastNow 12 = .ok (.getfield 9, 3) := by decide +kernel
theorem dX1_leastNow_15 : decode cX1_leastNow 15 = .ok (.iload_n 3, 1) := by decide +kernel
theorem dX1_leastNow_16 : decode cX1_leastNow 16 = .ok (.iaload, 1) := by decide +kernel
theorem dX1_leastNow_17 : decode cX1_leastNow 17 = .ok (.invokestatic 103, 3) := by decide +kernel
theorem dX1_leastNow_20 : decode cX1_leastNow 20 = .ok (.istore_n 2, 1) := by decide +kernel
theorem dX1_leastNow_21 : decode cX1_leastNow 21 = .ok (.iinc 3 1, 3) := by decide +kernel
theorem dX1_leastNow_24 : decode cX1_leastNow 24 = .ok (.goto (-19), 3) := by decide +kernel
theorem dX1_leastNow_27 : decode cX1_leastNow 27 = .ok (.iload_n 2, 1) := by decide +kernel
theorem dX1_leastNow_28 : decode cX1_leastNow 28 = .ok (.ireturn, 1) := by decide +kernel
theorem dX9_tryCrew_0 : decode cX9_tryCrew 0 = .ok (.aload_n 0, 1) := by decide +kernel
theorem dX9_tryCrew_1 : decode cX9_tryCrew 1 = .ok (.getfield 12, 3) := by decide +kernel
theorem dX9_tryCrew_4 : decode cX9_tryCrew 4 = .ok (.aload_n 1, 1) := by decide +kernel
theorem dX9_tryCrew_5 : decode cX9_tryCrew 5 = .ok (.invokevirtual 42, 3) := by decide +kernel
theorem dX9_tryCrew_8 : decode cX9_tryCrew 8 = .ok (.aload_n 0, 1) := by decide +kernel
theorem dX9_tryCrew_9 : decode cX9_tryCrew 9 = .ok (.getfield 12, 3) := by decide +kernel
theorem dX9_tryCrew_12 : decode cX9_tryCrew 12 = .ok (.iload 4, 2) := by decide +kernel
theorem dX9_tryCrew_14 : decode cX9_tryCrew 14 = .ok (.putfield 98, 3) := by decide +kernel
theorem dX9_tryCrew_17 : decode cX9_tryCrew 17 = .ok (.aload_n 0, 1) := by decide +kernel
theorem dX9_tryCrew_18 : decode cX9_tryCrew 18 = .ok (.getfield 12, 3) := by decide +kernel
theorem dX9_tryCrew_21 : decode cX9_tryCrew 21 = .ok (.aload_n 1, 1) := by decide +kernel
theorem dX9_tryCrew_22 : decode cX9_tryCrew 22 = .ok (.aload_n 2, 1) := by decide +kernel
theorem dX9_tryCrew_23 : decode cX9_tryCrew 23 = .ok (.aload_n 3, 1) := by decide +kernel
theorem dX9_tryCrew_24 : decode cX9_tryCrew 24 = .ok (.aload_n 0, 1) := by decide +kernel
theorem dX9_tryCrew_25 : decode cX9_tryCrew 25 = .ok (.getfield 35, 3) := by decide +kernel
theorem dX9_tryCrew_28 : decode cX9_tryCrew 28 = .ok (.invokevirtual 74, 3) := by decide +kernel
theorem dX9_tryCrew_31 : decode cX9_tryCrew 31 = .ok (.ifCond .ne 4, 3) := by decide +kernel
theorem dX9_tryCrew_34 : decode cX9_tryCrew 34 = .ok (.return_, 1) := by decide +kernel
theorem dX9_tryCrew_35 : decode cX9_tryCrew 35 = .ok (.aload_n 0, 1) := by decide +kernel
theorem dX9_tryCrew_36 : decode cX9_tryCrew 36 = .ok (.getfield 12, 3) := by decide +kernel
theorem dX9_tryCrew_39 : decode cX9_tryCrew 39 = .ok (.aload_n 1, 1) := by decide +kernel
theorem dX9_tryCrew_40 : decode cX9_tryCrew 40 = .ok (.getfield 101, 3) := by decide +kernel
theorem dX9_tryCrew_43 : decode cX9_tryCrew 43 = .ok (.invokevirtual 103, 3) := by decide +kernel
theorem dX9_tryCrew_46 : decode cX9_tryCrew 46 = .ok (.istore 5, 2) := by decide +kernel
theorem dX9_tryCrew_48 : decode cX9_tryCrew 48 = .ok (.aload_n 0, 1) := by decide +kernel
theorem dX9_tryCrew_49 : decode cX9_tryCrew 49 = .ok (.getfield 12, 3) := by decide +kernel
theorem dX9_tryCrew_52 : decode cX9_tryCrew 52 = .ok (.getfield 78, 3) := by decide +kernel
theorem dX9_tryCrew_55 : decode cX9_tryCrew 55 = .ok (.aload_n 0, 1) := by decide +kernel
theorem dX9_tryCrew_56 : decode cX9_tryCrew 56 = .ok (.getfield 35, 3) := by decide +kernel
theorem dX9_tryCrew_59 : decode cX9_tryCrew 59 = .ok (.if_icmp .lt 12, 3) := by decide +kernel
theorem dX9_tryCrew_62 : decode cX9_tryCrew 62 = .ok (.iload 5, 2) := by decide +kernel
theorem dX9_tryCrew_64 : decode cX9_tryCrew 64 = .ok (.aload_n 0, 1) := by decide +kernel
theorem dX9_tryCrew_65 : decode cX9_tryCrew 65 = .ok (.getfield 106, 3) := by decide +kernel
theorem dX9_tryCrew_68 : decode cX9_tryCrew 68 = .ok (.if_icmp .le 26, 3) := by decide +kernel
theorem dX9_tryCrew_71 : decode cX9_tryCrew 71 = .ok (.aload_n 0, 1) := by decide +kernel
theorem dX9_tryCrew_72 : decode cX9_tryCrew 72 = .ok (.iload 4, 2) := by decide +kernel
theorem dX9_tryCrew_74 : decode cX9_tryCrew 74 = .ok (.putfield 109, 3) := by decide +kernel
theorem dX9_tryCrew_77 : decode cX9_tryCrew 77 = .ok (.aload_n 0, 1) := by decide +kernel
theorem dX9_tryCrew_78 : decode cX9_tryCrew 78 = .ok (.aload_n 0, 1) := by decide +kernel
theorem dX9_tryCrew_79 : decode cX9_tryCrew 79 = .ok (.getfield 12, 3) := by decide +kernel
theorem dX9_tryCrew_82 : decode cX9_tryCrew 82 = .ok (.getfield 78, 3) := by decide +kernel
theorem dX9_tryCrew_85 : decode cX9_tryCrew 85 = .ok (.putfield 35, 3) := by decide +kernel
theorem dX9_tryCrew_88 : decode cX9_tryCrew 88 = .ok (.aload_n 0, 1) := by decide +kernel
theorem dX9_tryCrew_89 : decode cX9_tryCrew 89 = .ok (.iload 5, 2) := by decide +kernel
theorem dX9_tryCrew_91 : decode cX9_tryCrew 91 = .ok (.putfield 106, 3) := by decide +kernel
theorem dX9_tryCrew_94 : decode cX9_tryCrew 94 = .ok (.return_, 1) := by decide +kernel
theorem dX9_findCrew_0 : decode cX9_findCrew 0 = .ok (.aload_n 0, 1) := by decide +kernel
theorem dX9_findCrew_1 : decode cX9_findCrew 1 = .ok (.ldc 30, 2) := by decide +kernel
theorem dX9_findCrew_3 : decode cX9_findCrew 3 = .ok (.putfield 35, 3) := by decide +kernel
theorem dX9_findCrew_6 : decode cX9_findCrew 6 = .ok (.iconst 1, 1) := by decide +kernel
theorem dX9_findCrew_7 : decode cX9_findCrew 7 = .ok (.istore 5, 2) := by decide +kernel
theorem dX9_findCrew_9 : decode cX9_findCrew 9 = .ok (.iload 5, 2) := by decide +kernel
theorem dX9_findCrew_11 : decode cX9_findCrew 11 = .ok (.aload_n 1, 1) := by decide +kernel
theorem dX9_findCrew_12 : decode cX9_findCrew 12 = .ok (.invokevirtual 85, 3) := by decide +kernel
theorem dX9_findCrew_15 : decode cX9_findCrew 15 = .ok (.if_icmp .gt 28, 3) := by decide +kernel
theorem dX9_findCrew_18 : decode cX9_findCrew 18 = .ok (.iload 5, 2) := by decide +kernel
theorem dX9_findCrew_20 : decode cX9_findCrew 20 = .ok (.invokestatic 88, 3) := by decide +kernel
theorem dX9_findCrew_23 : decode cX9_findCrew 23 = .ok (.iload 4, 2) := by decide +kernel
theorem dX9_findCrew_25 : decode cX9_findCrew 25 = .ok (.if_icmp .ne 12, 3) := by decide +kernel
theorem dX9_findCrew_28 : decode cX9_findCrew 28 = .ok (.aload_n 0, 1) := by decide +kernel
theorem dX9_findCrew_29 : decode cX9_findCrew 29 = .ok (.aload_n 1, 1) := by decide +kernel
theorem dX9_findCrew_30 : decode cX9_findCrew 30 = .ok (.aload_n 2, 1) := by decide +kernel
theorem dX9_findCrew_31 : decode cX9_findCrew 31 = .ok (.aload_n 3, 1) := by decide +kernel
theorem dX9_findCrew_32 : decode cX9_findCrew 32 = .ok (.iload 5, 2) := by decide +kernel
theorem dX9_findCrew_34 : decode cX9_findCrew 34 = .ok (.invokevirtual 94, 3) := by decide +kernel
theorem dX9_findCrew_37 : decode cX9_findCrew 37 = .ok (.iinc 5 1, 3) := by decide +kernel
theorem dX9_findCrew_40 : decode cX9_findCrew 40 = .ok (.goto (-31), 3) := by decide +kernel
theorem dX9_findCrew_43 : decode cX9_findCrew 43 = .ok (.return_, 1) := by decide +kernel
theorem dX11_best_0 : decode cX11_best 0 = .ok (.aload_n 0, 1) := by decide +kernel
theorem dX11_best_1 : decode cX11_best 1 = .ok (.iload_n 1, 1) := by decide +kernel
theorem dX11_best_2 : decode cX11_best 2 = .ok (.invokevirtual 106, 3) := by decide +kernel
theorem dX11_best_5 : decode cX11_best 5 = .ok (.astore 5, 2) := by decide +kernel
theorem dX11_best_7 : decode cX11_best 7 = .ok (.aload 5, 2) := by decide +kernel
theorem dX11_best_9 : decode cX11_best 9 = .ok (.ifnull 45, 3) := by decide +kernel
theorem dX11_best_12 : decode cX11_best 12 = .ok (.iload_n 2, 1) := by decide +kernel
theorem dX11_best_13 : decode cX11_best 13 = .ok (.iconst 0, 1) := by decide +kernel
theorem dX11_best_14 : decode cX11_best 14 = .ok (.aload_n 0, 1) := by decide +kernel
theorem dX11_best_15 : decode cX11_best 15 = .ok (.getfield 37, 3) := by decide +kernel
theorem dX11_best_18 : decode cX11_best 18 = .ok (.invokevirtual 86, 3) := by decide +kernel
theorem dX11_best_21 : decode cX11_best 21 = .ok (.iconst 1, 1) := by decide +kernel
theorem dX11_best_22 : decode cX11_best 22 = .ok (.isub, 1) := by decide +kernel
theorem dX11_best_23 : decode cX11_best 23 = .ok (.invokestatic 113, 3) := by decide +kernel
theorem dX11_best_26 : decode cX11_best 26 = .ok (.ifCond .eq 28, 3) := by decide +kernel
theorem dX11_best_29 : decode cX11_best 29 = .ok (.iload_n 3, 1) := by decide +kernel
theorem dX11_best_30 : decode cX11_best 30 = .ok (.iconst 1, 1) := by decide +kernel
theorem dX11_best_31 : decode cX11_best 31 = .ok (.aload_n 0, 1) := by decide +kernel
theorem dX11_best_32 : decode cX11_best 32 = .ok (.getfield 26, 3) := by decide +kernel
theorem dX11_best_35 : decode cX11_best 35 = .ok (.getfield 124, 3) := by decide +kernel
theorem dX11_best_38 : decode cX11_best 38 = .ok (.invokestatic 113, 3) := by decide +kernel
theorem dX11_best_41 : decode cX11_best 41 = .ok (.ifCond .eq 13, 3) := by decide +kernel
theorem dX11_best_44 : decode cX11_best 44 = .ok (.iload 4, 2) := by decide +kernel
theorem dX11_best_46 : decode cX11_best 46 = .ok (.iconst 0, 1) := by decide +kernel
theorem dX11_best_47 : decode cX11_best 47 = .ok (.iconst 2, 1) := by decide +kernel
theorem dX11_best_48 : decode cX11_best 48 = .ok (.invokestatic 113, 3) := by decide +kernel
theorem dX11_best_51 : decode cX11_best 51 = .ok (.ifCond .ne 6, 3) := by decide +kernel
theorem dX11_best_54 : decode cX11_best 54 = .ok (.bipush (-2), 2) := by decide +kernel
theorem dX11_best_56 : decode cX11_best 56 = .ok (.ireturn, 1) := by decide +kernel
theorem dX11_best_57 : decode cX11_best 57 = .ok (.aload_n 0, 1) := by decide +kernel
theorem dX11_best_58 : decode cX11_best 58 = .ok (.getfield 43, 3) := by decide +kernel
theorem dX11_best_61 : decode cX11_best 61 = .ok (.aload_n 0, 1) := by decide +kernel
theorem dX11_best_62 : decode cX11_best 62 = .ok (.getfield 26, 3) := by decide +kernel
theorem dX11_best_65 : decode cX11_best 65 = .ok (.aload 5, 2) := by decide +kernel
theorem dX11_best_67 : decode cX11_best 67 = .ok (.aload_n 0, 1) := by decide +kernel
theorem dX11_best_68 : decode cX11_best 68 = .ok (.getfield 37, 3) := by decide +kernel
theorem dX11_best_71 : decode cX11_best 71 = .ok (.iload_n 2, 1) := by decide +kernel
theorem dX11_best_72 : decode cX11_best 72 = .ok (.invokevirtual 203, 3) := by decide +kernel
theorem dX11_best_75 : decode cX11_best 75 = .ok (.checkcast 158, 3) := by decide +kernel
theorem dX11_best_78 : decode cX11_best 78 = .ok (.iload_n 3, 1) := by decide +kernel
theorem dX11_best_79 : decode cX11_best 79 = .ok (.invokevirtual 207, 3) := by decide +kernel
theorem dX11_best_82 : decode cX11_best 82 = .ok (.aload_n 0, 1) := by decide +kernel
theorem dX11_best_83 : decode cX11_best 83 = .ok (.getfield 43, 3) := by decide +kernel
theorem dX11_best_86 : decode cX11_best 86 = .ok (.getfield 211, 3) := by decide +kernel
theorem dX11_best_89 : decode cX11_best 89 = .ok (.ldc 199, 2) := by decide +kernel
theorem dX11_best_91 : decode cX11_best 91 = .ok (.if_icmp .ne 5, 3) := by decide +kernel
theorem dX11_best_94 : decode cX11_best 94 = .ok (.iconst (-1), 1) := by decide +kernel
theorem dX11_best_95 : decode cX11_best 95 = .ok (.ireturn, 1) := by decide +kernel
theorem dX11_best_96 : decode cX11_best 96 = .ok (.iload 4, 2) := by decide +kernel
theorem dX11_best_98 : decode cX11_best 98 = .ok (.lookupswitch 42 #[(0, 26), (1, 34)], 26) := by decide +kernel
theorem dX11_best_124 : decode cX11_best 124 = .ok (.aload_n 0, 1) := by decide +kernel
theorem dX11_best_125 : decode cX11_best 125 = .ok (.getfield 43, 3) := by decide +kernel
theorem dX11_best_128 : decode cX11_best 128 = .ok (.getfield 214, 3) := by decide +kernel
theorem dX11_best_131 : decode cX11_best 131 = .ok (.ireturn, 1) := by decide +kernel
theorem dX11_best_132 : decode cX11_best 132 = .ok (.aload_n 0, 1) := by decide +kernel
theorem dX11_best_133 : decode cX11_best 133 = .ok (.getfield 43, 3) := by decide +kernel
theorem dX11_best_136 : decode cX11_best 136 = .ok (.getfield 211, 3) := by decide +kernel
theorem dX11_best_139 : decode cX11_best 139 = .ok (.ireturn, 1) := by decide +kernel
theorem dX11_best_140 : decode cX11_best 140 = .ok (.aload_n 0, 1) := by decide +kernel
theorem dX11_best_141 : decode cX11_best 141 = .ok (.getfield 43, 3) := by decide +kernel
theorem dX11_best_144 : decode cX11_best 144 = .ok (.getfield 217, 3) := by decide +kernel
theorem dX11_best_147 : decode cX11_best 147 = .ok (.ireturn, 1) := by decide +kernel
theorem dX11_between_0 : decode cX11_between 0 = .ok (.iload_n 1, 1) := by decide +kernel
theorem dX11_between_1 : decode cX11_between 1 = .ok (.iconst 0, 1) := by decide +kernel
theorem dX11_between_2 : decode cX11_between 2 = .ok (.bipush 50, 2) := by decide +kernel
theorem dX11_between_4 : decode cX11_between 4 = .ok (.invokestatic 113, 3) := by decide +kernel
theorem dX11_between_7 : decode cX11_between 7 = .ok (.ifCond .ne 6, 3) := by decide +kernel
theorem dX11_between_10 : decode cX11_between 10 = .ok (.bipush (-2), 2) := by decide +kernel
theorem dX11_between_12 : decode cX11_between 12 = .ok (.ireturn, 1) := by decide +kernel
theorem dX11_between_13 : decode cX11_between 13 = .ok (.aload_n 0, 1) := by decide +kernel
theorem dX11_between_14 : decode cX11_between 14 = .ok (.getfield 185, 3) := by decide +kernel
theorem dX11_between_17 : decode cX11_between 17 = .ok (.istore_n 2, 1) := by decide +kernel
theorem dX11_between_18 : decode cX11_between 18 = .ok (.aload_n 0, 1) := by decide +kernel
theorem dX11_between_19 : decode cX11_between 19 = .ok (.iload_n 1, 1) := by decide +kernel
theorem dX11_between_20 : decode cX11_between 20 = .ok (.putfield 185, 3) := by decide +kernel
theorem dX11_between_23 : decode cX11_between 23 = .ok (.aload_n 0, 1) := by decide +kernel
theorem dX11_between_24 : decode cX11_between 24 = .ok (.getfield 43, 3) := by decide +kernel
theorem dX11_between_27 : decode cX11_between 27 = .ok (.iconst 0, 1) := by decide +kernel
theorem dX11_between_28 : decode cX11_between 28 = .ok (.putfield 102, 3) := by decide +kernel
theorem dX11_between_31 : decode cX11_between 31 = .ok (.iload_n 2, 1) := by decide +kernel
theorem dX11_between_32 : decode cX11_between 32 = .ok (.ireturn, 1) := by decide +kernel
theorem dX11_count_0 : decode cX11_count 0 = .ok (.iload_n 1, 1) := by decide +kernel
theorem dX11_count_1 : decode cX11_count 1 = .ok (.tableswitch 123 0 8 #[51, 59, 67, 75, 83, 91, 99, 107, 115], 51) := by decide +kernel
theorem dX11_count_52 : decode cX11_count 52 = .ok (.aload_n 0, 1) := by decide +kernel
theorem dX11_count_53 : decode cX11_count 53 = .ok (.getfield 19, 3) := by decide +kernel
theorem dX11_count_56 : decode cX11_count 56 = .ok (.invokevirtual 86, 3) := by decide +kernel
theorem dX11_count_59 : decode cX11_count 59 = .ok (.ireturn, 1) := by decide +kernel
theorem dX11_count_60 : decode cX11_count 60 = .ok (.aload_n 0, 1) := by decide +kernel
theorem dX11_count_61 : decode cX11_count 61 = .ok (.getfield 26, 3) := by decide +kernel
theorem dX11_count_64 : decode cX11_count 64 = .ok (.getfield 124, 3) := by decide +kernel
theorem dX11_count_67 : decode cX11_count 67 = .ok (.ireturn, 1) := by decide +kernel
theorem dX11_count_68 : decode cX11_count 68 = .ok (.aload_n 0, 1) := by decide +kernel
theorem dX11_count_69 : decode cX11_count 69 = .ok (.getfield 26, 3) := by decide +kernel
theorem dX11_count_72 : decode cX11_count 72 = .ok (.getfield 135, 3) := by decide +kernel
theorem dX11_count_75 : decode cX11_count 75 = .ok (.ireturn, 1) := by decide +kernel
theorem dX11_count_76 : decode cX11_count 76 = .ok (.aload_n 0, 1) := by decide +kernel
theorem dX11_count_77 : decode cX11_count 77 = .ok (.getfield 26, 3) := by decide +kernel
theorem dX11_count_80 : decode cX11_count 80 = .ok (.getfield 138, 3) := by decide +kernel
theorem dX11_count_83 : decode cX11_count 83 = .ok (.ireturn, 1) := by decide +kernel
theorem dX11_count_84 : decode cX11_count 84 = .ok (.aload_n 0, 1) := by decide +kernel
theorem dX11_count_85 : decode cX11_count 85 = .ok (.getfield 37, 3) := by decide +kernel
theorem dX11_count_88 : decode cX11_count 88 = .ok (.invokevirtual 86, 3) := by decide +kernel
theorem dX11_count_91 : decode cX11_count 91 = .ok (.ireturn, 1) := by decide +kernel
theorem dX11_count_92 : decode cX11_count 92 = .ok (.aload_n 0, 1) := by decide +kernel
theorem dX11_count_93 : decode cX11_count 93 = .ok (.getfield 47, 3) := by decide +kernel
theorem dX11_count_96 : decode cX11_count 96 = .ok (.invokevirtual 86, 3) := by decide +kernel
theorem dX11_count_99 : decode cX11_count 99 = .ok (.ireturn, 1) := by decide +kernel
theorem dX11_count_100 : decode cX11_count 100 = .ok (.aload_n 0, 1) := by decide +kernel
theorem dX11_count_101 : decode cX11_count 101 = .ok (.getfield 60, 3) := by decide +kernel
theorem dX11_count_104 : decode cX11_count 104 = .ok (.getfield 249, 3) := by decide +kernel
theorem dX11_count_107 : decode cX11_count 107 = .ok (.ireturn, 1) := by decide +kernel
theorem dX11_count_108 : decode cX11_count 108 = .ok (.aload_n 0, 1) := by decide +kernel
theorem dX11_count_109 : decode cX11_count 109 = .ok (.getfield 10, 3) := by decide +kernel
theorem dX11_count_112 : decode cX11_count 112 = .ok (.getfield 82, 3) := by decide +kernel
theorem dX11_count_115 : decode cX11_count 115 = .ok (.ireturn, 1) := by decide +kernel
theorem dX11_count_116 : decode cX11_count 116 = .ok (.aload_n 0, 1) := by decide +kernel
theorem dX11_count_117 : decode cX11_count 117 = .ok (.getfield 33, 3) := by decide +kernel
theorem dX11_count_120 : decode cX11_count 120 = .ok (.getfield 172, 3) := by decide +kernel
theorem dX11_count_123 : decode cX11_count 123 = .ok (.ireturn, 1) := by decide +kernel
theorem dX11_count_124 : decode cX11_count 124 = .ok (.bipush (-2), 2) := by decide +kernel
theorem dX11_count_126 : decode cX11_count 126 = .ok (.ireturn, 1) := by decide +kernel
