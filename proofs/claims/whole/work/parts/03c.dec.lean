theorem dX9_findPlan_0 : decode cX9_findPlan 0 = .ok (.aload_n 0, 1) := by decide +kernel
theorem dX9_findPlan_1 : decode cX9_findPlan 1 = .ok (.getfield 38, 3) := by decide +kernel
theorem dX9_findPlan_4 : decode cX9_findPlan 4 = .ok (.ifCond .eq 4, 3) := by decide +kernel
theorem dX9_findPlan_7 : decode cX9_findPlan 7 = .ok (.return_, 1) := by decide +kernel
theorem dX9_findPlan_8 : decode cX9_findPlan 8 = .ok (.aload_n 0, 1) := by decide +kernel
theorem dX9_findPlan_9 : decode cX9_findPlan 9 = .ok (.ldc 30, 2) := by decide +kernel
theorem dX9_findPlan_11 : decode cX9_findPlan 11 = .ok (.putfield 31, 3) := by decide +kernel
theorem dX9_findPlan_14 : decode cX9_findPlan 14 = .ok (.aload_n 0, 1) := by decide +kernel
theorem dX9_findPlan_15 : decode cX9_findPlan 15 = .ok (.getfield 12, 3) := by decide +kernel
theorem dX9_findPlan_18 : decode cX9_findPlan 18 = .ok (.aload_n 2, 1) := by decide +kernel
theorem dX9_findPlan_19 : decode cX9_findPlan 19 = .ok (.invokevirtual 42, 3) := by decide +kernel
theorem dX9_findPlan_22 : decode cX9_findPlan 22 = .ok (.aload_n 2, 1) := by decide +kernel
theorem dX9_findPlan_23 : decode cX9_findPlan 23 = .ok (.getfield 46, 3) := by decide +kernel
theorem dX9_findPlan_26 : decode cX9_findPlan 26 = .ok (.aload_n 0, 1) := by decide +kernel
theorem dX9_findPlan_27 : decode cX9_findPlan 27 = .ok (.getfield 20, 3) := by decide +kernel
theorem dX9_findPlan_30 : decode cX9_findPlan 30 = .ok (.iconst 0, 1) := by decide +kernel
theorem dX9_findPlan_31 : decode cX9_findPlan 31 = .ok (.aaload, 1) := by decide +kernel
theorem dX9_findPlan_32 : decode cX9_findPlan 32 = .ok (.invokestatic 51, 3) := by decide +kernel
theorem dX9_findPlan_35 : decode cX9_findPlan 35 = .ok (.aload_n 0, 1) := by decide +kernel
theorem dX9_findPlan_36 : decode cX9_findPlan 36 = .ok (.aload_n 1, 1) := by decide +kernel
theorem dX9_findPlan_37 : decode cX9_findPlan 37 = .ok (.aload_n 2, 1) := by decide +kernel
theorem dX9_findPlan_38 : decode cX9_findPlan 38 = .ok (.aload_n 3, 1) := by decide +kernel
theorem dX9_findPlan_39 : decode cX9_findPlan 39 = .ok (.iload 4, 2) := by decide +kernel
theorem dX9_findPlan_41 : decode cX9_findPlan 41 = .ok (.iconst 0, 1) := by decide +kernel
theorem dX9_findPlan_42 : decode cX9_findPlan 42 = .ok (.iconst 0, 1) := by decide +kernel
theorem dX9_findPlan_43 : decode cX9_findPlan 43 = .ok (.invokevirtual 55, 3) := by decide +kernel
theorem dX9_findPlan_46 : decode cX9_findPlan 46 = .ok (.aload_n 0, 1) := by decide +kernel
theorem dX9_findPlan_47 : decode cX9_findPlan 47 = .ok (.iconst 1, 1) := by decide +kernel
theorem dX9_findPlan_48 : decode cX9_findPlan 48 = .ok (.putfield 38, 3) := by decide +kernel
theorem dX9_findPlan_51 : decode cX9_findPlan 51 = .ok (.return_, 1) := by decide +kernel
theorem dX11_plan_0 : decode cX11_plan 0 = .ok (.aload_n 0, 1) := by decide +kernel
theorem dX11_plan_1 : decode cX11_plan 1 = .ok (.getfield 37, 3) := by decide +kernel
theorem dX11_plan_4 : decode cX11_plan 4 = .ok (.invokevirtual 188, 3) := by decide +kernel
theorem dX11_plan_7 : decode cX11_plan 7 = .ok (.ifCond .ne 13, 3) := by decide +kernel
theorem dX11_plan_10 : decode cX11_plan 10 = .ok (.aload_n 0, 1) := by decide +kernel
theorem dX11_plan_11 : decode cX11_plan 11 = .ok (.getfield 19, 3) := by decide +kernel
theorem dX11_plan_14 : decode cX11_plan 14 = .ok (.invokevirtual 188, 3) := by decide +kernel
theorem dX11_plan_17 : decode cX11_plan 17 = .ok (.ifCond .eq 6, 3) := by decide +kernel
theorem dX11_plan_20 : decode cX11_plan 20 = .ok (.bipush (-3), 2) := by decide +kernel
theorem dX11_plan_22 : decode cX11_plan 22 = .ok (.ireturn, 1) := by decide +kernel
theorem dX11_plan_23 : decode cX11_plan 23 = .ok (.aload_n 0, 1) := by decide +kernel
theorem dX11_plan_24 : decode cX11_plan 24 = .ok (.getfield 43, 3) := by decide +kernel
theorem dX11_plan_27 : decode cX11_plan 27 = .ok (.aload_n 0, 1) := by decide +kernel
theorem dX11_plan_28 : decode cX11_plan 28 = .ok (.getfield 19, 3) := by decide +kernel
theorem dX11_plan_31 : decode cX11_plan 31 = .ok (.aload_n 0, 1) := by decide +kernel
theorem dX11_plan_32 : decode cX11_plan 32 = .ok (.getfield 26, 3) := by decide +kernel
theorem dX11_plan_35 : decode cX11_plan 35 = .ok (.aload_n 0, 1) := by decide +kernel
theorem dX11_plan_36 : decode cX11_plan 36 = .ok (.getfield 37, 3) := by decide +kernel
theorem dX11_plan_39 : decode cX11_plan 39 = .ok (.aload_n 0, 1) := by decide +kernel
theorem dX11_plan_40 : decode cX11_plan 40 = .ok (.getfield 185, 3) := by decide +kernel
theorem dX11_plan_43 : decode cX11_plan 43 = .ok (.invokevirtual 192, 3) := by decide +kernel
theorem dX11_plan_46 : decode cX11_plan 46 = .ok (.aload_n 0, 1) := by decide +kernel
theorem dX11_plan_47 : decode cX11_plan 47 = .ok (.getfield 43, 3) := by decide +kernel
theorem dX11_plan_50 : decode cX11_plan 50 = .ok (.getfield 196, 3) := by decide +kernel
theorem dX11_plan_53 : decode cX11_plan 53 = .ok (.ldc 199, 2) := by decide +kernel
theorem dX11_plan_55 : decode cX11_plan 55 = .ok (.if_icmp .ne 7, 3) := by decide +kernel
theorem dX11_plan_58 : decode cX11_plan 58 = .ok (.iconst (-1), 1) := by decide +kernel
theorem dX11_plan_59 : decode cX11_plan 59 = .ok (.goto 10, 3) := by decide +kernel
theorem dX11_plan_62 : decode cX11_plan 62 = .ok (.aload_n 0, 1) := by decide +kernel
theorem dX11_plan_63 : decode cX11_plan 63 = .ok (.getfield 43, 3) := by decide +kernel
theorem dX11_plan_66 : decode cX11_plan 66 = .ok (.getfield 196, 3) := by decide +kernel
theorem dX11_plan_69 : decode cX11_plan 69 = .ok (.ireturn, 1) := by decide +kernel
theorem dX11_planAt_0 : decode cX11_planAt 0 = .ok (.iload_n 1, 1) := by decide +kernel
theorem dX11_planAt_1 : decode cX11_planAt 1 = .ok (.iconst 0, 1) := by decide +kernel
theorem dX11_planAt_2 : decode cX11_planAt 2 = .ok (.aload_n 0, 1) := by decide +kernel
theorem dX11_planAt_3 : decode cX11_planAt 3 = .ok (.getfield 37, 3) := by decide +kernel
theorem dX11_planAt_6 : decode cX11_planAt 6 = .ok (.invokevirtual 86, 3) := by decide +kernel
theorem dX11_planAt_9 : decode cX11_planAt 9 = .ok (.iconst 1, 1) := by decide +kernel
theorem dX11_planAt_10 : decode cX11_planAt 10 = .ok (.isub, 1) := by decide +kernel
theorem dX11_planAt_11 : decode cX11_planAt 11 = .ok (.invokestatic 113, 3) := by decide +kernel
theorem dX11_planAt_14 : decode cX11_planAt 14 = .ok (.ifCond .ne 6, 3) := by decide +kernel
theorem dX11_planAt_17 : decode cX11_planAt 17 = .ok (.bipush (-2), 2) := by decide +kernel
theorem dX11_planAt_19 : decode cX11_planAt 19 = .ok (.ireturn, 1) := by decide +kernel
theorem dX11_planAt_20 : decode cX11_planAt 20 = .ok (.aload_n 0, 1) := by decide +kernel
theorem dX11_planAt_21 : decode cX11_planAt 21 = .ok (.getfield 19, 3) := by decide +kernel
theorem dX11_planAt_24 : decode cX11_planAt 24 = .ok (.invokevirtual 188, 3) := by decide +kernel
theorem dX11_planAt_27 : decode cX11_planAt 27 = .ok (.ifCond .eq 6, 3) := by decide +kernel
theorem dX11_planAt_30 : decode cX11_planAt 30 = .ok (.bipush (-3), 2) := by decide +kernel
theorem dX11_planAt_32 : decode cX11_planAt 32 = .ok (.ireturn, 1) := by decide +kernel
theorem dX11_planAt_33 : decode cX11_planAt 33 = .ok (.aload_n 0, 1) := by decide +kernel
theorem dX11_planAt_34 : decode cX11_planAt 34 = .ok (.getfield 43, 3) := by decide +kernel
theorem dX11_planAt_37 : decode cX11_planAt 37 = .ok (.aload_n 0, 1) := by decide +kernel
theorem dX11_planAt_38 : decode cX11_planAt 38 = .ok (.getfield 19, 3) := by decide +kernel
theorem dX11_planAt_41 : decode cX11_planAt 41 = .ok (.aload_n 0, 1) := by decide +kernel
theorem dX11_planAt_42 : decode cX11_planAt 42 = .ok (.getfield 26, 3) := by decide +kernel
theorem dX11_planAt_45 : decode cX11_planAt 45 = .ok (.aload_n 0, 1) := by decide +kernel
theorem dX11_planAt_46 : decode cX11_planAt 46 = .ok (.getfield 37, 3) := by decide +kernel
theorem dX11_planAt_49 : decode cX11_planAt 49 = .ok (.aload_n 0, 1) := by decide +kernel
theorem dX11_planAt_50 : decode cX11_planAt 50 = .ok (.getfield 185, 3) := by decide +kernel
theorem dX11_planAt_53 : decode cX11_planAt 53 = .ok (.invokevirtual 192, 3) := by decide +kernel
theorem dX11_planAt_56 : decode cX11_planAt 56 = .ok (.aload_n 0, 1) := by decide +kernel
theorem dX11_planAt_57 : decode cX11_planAt 57 = .ok (.getfield 43, 3) := by decide +kernel
theorem dX11_planAt_60 : decode cX11_planAt 60 = .ok (.getfield 196, 3) := by decide +kernel
theorem dX11_planAt_63 : decode cX11_planAt 63 = .ok (.ldc 199, 2) := by decide +kernel
theorem dX11_planAt_65 : decode cX11_planAt 65 = .ok (.if_icmp .ne 7, 3) := by decide +kernel
theorem dX11_planAt_68 : decode cX11_planAt 68 = .ok (.iconst (-1), 1) := by decide +kernel
theorem dX11_planAt_69 : decode cX11_planAt 69 = .ok (.goto 12, 3) := by decide +kernel
theorem dX11_planAt_72 : decode cX11_planAt 72 = .ok (.aload_n 0, 1) := by decide +kernel
theorem dX11_planAt_73 : decode cX11_planAt 73 = .ok (.getfield 43, 3) := by decide +kernel
theorem dX11_planAt_76 : decode cX11_planAt 76 = .ok (.getfield 200, 3) := by decide +kernel
theorem dX11_planAt_79 : decode cX11_planAt 79 = .ok (.iload_n 1, 1) := by decide +kernel
theorem dX11_planAt_80 : decode cX11_planAt 80 = .ok (.iaload, 1) := by decide +kernel
theorem dX11_planAt_81 : decode cX11_planAt 81 = .ok (.ireturn, 1) := by decide +kernel
theorem dX6_take_0 : decode cX6_take 0 = .ok (.aload_n 1, 1) := by decide +kernel
theorem dX6_take_1 : decode cX6_take 1 = .ok (.getfield 9, 3) := by decide +kernel
theorem dX6_take_4 : decode cX6_take 4 = .ok (.aload_n 0, 1) := by decide +kernel
theorem dX6_take_5 : decode cX6_take 5 = .ok (.getfield 9, 3) := by decide +kernel
theorem dX6_take_8 : decode cX6_take 8 = .ok (.invokestatic 19, 3) := by decide +kernel
theorem dX6_take_11 : decode cX6_take 11 = .ok (.aload_n 0, 1) := by decide +kernel
theorem dX6_take_12 : decode cX6_take 12 = .ok (.aload_n 1, 1) := by decide +kernel
theorem dX6_take_13 : decode cX6_take 13 = .ok (.getfield 15, 3) := by decide +kernel
theorem dX6_take_16 : decode cX6_take 16 = .ok (.putfield 15, 3) := by decide +kernel
theorem dX6_take_19 : decode cX6_take 19 = .ok (.aload_n 1, 1) := by decide +kernel
theorem dX6_take_20 : decode cX6_take 20 = .ok (.iconst 0, 1) := by decide +kernel
theorem dX6_take_21 : decode cX6_take 21 = .ok (.putfield 15, 3) := by decide +kernel
theorem dX6_take_24 : decode cX6_take 24 = .ok (.return_, 1) := by decide +kernel
theorem dX11_refrain_0 : decode cX11_refrain 0 = .ok (.aload_n 0, 1) := by decide +kernel
theorem dX11_refrain_1 : decode cX11_refrain 1 = .ok (.iload_n 1, 1) := by decide +kernel
theorem dX11_refrain_2 : decode cX11_refrain 2 = .ok (.invokevirtual 106, 3) := by decide +kernel
theorem dX11_refrain_5 : decode cX11_refrain 5 = .ok (.astore_n 2, 1) := by decide +kernel
theorem dX11_refrain_6 : decode cX11_refrain 6 = .ok (.aload_n 2, 1) := by decide +kernel
theorem dX11_refrain_7 : decode cX11_refrain 7 = .ok (.ifnonnull 6, 3) := by decide +kernel
theorem dX11_refrain_10 : decode cX11_refrain 10 = .ok (.bipush (-2), 2) := by decide +kernel
theorem dX11_refrain_12 : decode cX11_refrain 12 = .ok (.ireturn, 1) := by decide +kernel
theorem dX11_refrain_13 : decode cX11_refrain 13 = .ok (.aload_n 0, 1) := by decide +kernel
theorem dX11_refrain_14 : decode cX11_refrain 14 = .ok (.getfield 10, 3) := by decide +kernel
theorem dX11_refrain_17 : decode cX11_refrain 17 = .ok (.getfield 82, 3) := by decide +kernel
theorem dX11_refrain_20 : decode cX11_refrain 20 = .ok (.bipush 12, 2) := by decide +kernel
theorem dX11_refrain_22 : decode cX11_refrain 22 = .ok (.if_icmp .le 6, 3) := by decide +kernel
theorem dX11_refrain_25 : decode cX11_refrain 25 = .ok (.bipush (-3), 2) := by decide +kernel
theorem dX11_refrain_27 : decode cX11_refrain 27 = .ok (.ireturn, 1) := by decide +kernel
theorem dX11_refrain_28 : decode cX11_refrain 28 = .ok (.aload_n 2, 1) := by decide +kernel
theorem dX11_refrain_29 : decode cX11_refrain 29 = .ok (.getfield 110, 3) := by decide +kernel
theorem dX11_refrain_32 : decode cX11_refrain 32 = .ok (.aload_n 0, 1) := by decide +kernel
theorem dX11_refrain_33 : decode cX11_refrain 33 = .ok (.getfield 10, 3) := by decide +kernel
theorem dX11_refrain_36 : decode cX11_refrain 36 = .ok (.invokevirtual 95, 3) := by decide +kernel
theorem dX11_refrain_39 : decode cX11_refrain 39 = .ok (.aload_n 0, 1) := by decide +kernel
theorem dX11_refrain_40 : decode cX11_refrain 40 = .ok (.getfield 43, 3) := by decide +kernel
theorem dX11_refrain_43 : decode cX11_refrain 43 = .ok (.iconst 0, 1) := by decide +kernel
theorem dX11_refrain_44 : decode cX11_refrain 44 = .ok (.putfield 102, 3) := by decide +kernel
theorem dX11_refrain_47 : decode cX11_refrain 47 = .ok (.aload_n 2, 1) := by decide +kernel
theorem dX11_refrain_48 : decode cX11_refrain 48 = .ok (.getfield 110, 3) := by decide +kernel
theorem dX11_refrain_51 : decode cX11_refrain 51 = .ok (.getfield 82, 3) := by decide +kernel
theorem dX11_refrain_54 : decode cX11_refrain 54 = .ok (.ireturn, 1) := by decide +kernel
theorem dX11_rest_0 : decode cX11_rest 0 = .ok (.aload_n 0, 1) := by decide +kernel
theorem dX11_rest_1 : decode cX11_rest 1 = .ok (.getfield 10, 3) := by decide +kernel
theorem dX11_rest_4 : decode cX11_rest 4 = .ok (.getfield 82, 3) := by decide +kernel
theorem dX11_rest_7 : decode cX11_rest 7 = .ok (.istore_n 1, 1) := by decide +kernel
theorem dX11_rest_8 : decode cX11_rest 8 = .ok (.aload_n 0, 1) := by decide +kernel
theorem dX11_rest_9 : decode cX11_rest 9 = .ok (.getfield 10, 3) := by decide +kernel
theorem dX11_rest_12 : decode cX11_rest 12 = .ok (.iconst 0, 1) := by decide +kernel
theorem dX11_rest_13 : decode cX11_rest 13 = .ok (.putfield 82, 3) := by decide +kernel
theorem dX11_rest_16 : decode cX11_rest 16 = .ok (.iload_n 1, 1) := by decide +kernel
theorem dX11_rest_17 : decode cX11_rest 17 = .ok (.ireturn, 1) := by decide +kernel
theorem dX7_init_0 : decode cX7_init 0 = .ok (.aload_n 0, 1) := by decide +kernel
theorem dX7_init_1 : decode cX7_init 1 = .ok (.invokespecial 3, 3) := by decide +kernel
theorem dX7_init_4 : decode cX7_init 4 = .ok (.aload_n 0, 1) := by decide +kernel
theorem dX7_init_5 : decode cX7_init 5 = .ok (.new 9, 3) := by decide +kernel
theorem dX7_init_8 : decode cX7_init 8 = .ok (.dup, 1) := by decide +kernel
theorem dX7_init_9 : decode cX7_init 9 = .ok (.invokespecial 11, 3) := by decide +kernel
theorem dX7_init_12 : decode cX7_init 12 = .ok (.putfield 12, 3) := by decide +kernel
theorem dX7_init_15 : decode cX7_init 15 = .ok (.aload_n 0, 1) := by decide +kernel
theorem dX7_init_16 : decode cX7_init 16 = .ok (.new 9, 3) := by decide +kernel
theorem dX7_init_19 : decode cX7_init 19 = .ok (.dup, 1) := by decide +kernel
theorem dX7_init_20 : decode cX7_init 20 = .ok (.invokespecial 11, 3) := by decide +kernel
theorem dX7_init_23 : decode cX7_init 23 = .ok (.putfield 18, 3) := by decide +kernel
theorem dX7_init_26 : decode cX7_init 26 = .ok (.return_, 1) := by decide +kernel
theorem dX11_song_0 : decode cX11_song 0 = .ok (.aload_n 0, 1) := by decide +kernel
theorem dX11_song_1 : decode cX11_song 1 = .ok (.getfield 10, 3) := by decide +kernel
theorem dX11_song_4 : decode cX11_song 4 = .ok (.getfield 82, 3) := by decide +kernel
theorem dX11_song_7 : decode cX11_song 7 = .ok (.ifCond .ne 6, 3) := by decide +kernel
theorem dX11_song_10 : decode cX11_song 10 = .ok (.bipush (-3), 2) := by decide +kernel
theorem dX11_song_12 : decode cX11_song 12 = .ok (.ireturn, 1) := by decide +kernel
theorem dX11_song_13 : decode cX11_song 13 = .ok (.aload_n 0, 1) := by decide +kernel
theorem dX11_song_14 : decode cX11_song 14 = .ok (.getfield 19, 3) := by decide +kernel
theorem dX11_song_17 : decode cX11_song 17 = .ok (.invokevirtual 86, 3) := by decide +kernel
theorem dX11_song_20 : decode cX11_song 20 = .ok (.bipush 6, 2) := by decide +kernel
theorem dX11_song_22 : decode cX11_song 22 = .ok (.if_icmp .lt 6, 3) := by decide +kernel
theorem dX11_song_25 : decode cX11_song 25 = .ok (.bipush (-4), 2) := by decide +kernel
theorem dX11_song_27 : decode cX11_song 27 = .ok (.ireturn, 1) := by decide +kernel
theorem dX11_song_28 : decode cX11_song 28 = .ok (.new 89, 3) := by decide +kernel
theorem dX11_song_31 : decode cX11_song 31 = .ok (.dup, 1) := by decide +kernel
theorem dX11_song_32 : decode cX11_song 32 = .ok (.invokespecial 91, 3) := by decide +kernel
theorem dX11_song_35 : decode cX11_song 35 = .ok (.astore_n 1, 1) := by decide +kernel
theorem dX11_song_36 : decode cX11_song 36 = .ok (.aload_n 1, 1) := by decide +kernel
theorem dX11_song_37 : decode cX11_song 37 = .ok (.getfield 92, 3) := by decide +kernel
theorem dX11_song_40 : decode cX11_song 40 = .ok (.aload_n 0, 1) := by decide +kernel
theorem dX11_song_41 : decode cX11_song 41 = .ok (.getfield 10, 3) := by decide +kernel
theorem dX11_song_44 : decode cX11_song 44 = .ok (.invokevirtual 95, 3) := by decide +kernel
theorem dX11_song_47 : decode cX11_song 47 = .ok (.aload_n 0, 1) := by decide +kernel
theorem dX11_song_48 : decode cX11_song 48 = .ok (.getfield 19, 3) := by decide +kernel
theorem dX11_song_51 : decode cX11_song 51 = .ok (.aload_n 1, 1) := by decide +kernel
theorem dX11_song_52 : decode cX11_song 52 = .ok (.invokevirtual 99, 3) := by decide +kernel
theorem dX11_song_55 : decode cX11_song 55 = .ok (.pop, 1) := by decide +kernel
theorem dX11_song_56 : decode cX11_song 56 = .ok (.aload_n 0, 1) := by decide +kernel
theorem dX11_song_57 : decode cX11_song 57 = .ok (.getfield 43, 3) := by decide +kernel
theorem dX11_song_60 : decode cX11_song 60 = .ok (.iconst 0, 1) := by decide +kernel
theorem dX11_song_61 : decode cX11_song 61 = .ok (.putfield 102, 3) := by decide +kernel
theorem dX11_song_64 : decode cX11_song 64 = .ok (.aload_n 0, 1) := by decide +kernel
theorem dX11_song_65 : decode cX11_song 65 = .ok (.getfield 19, 3) := by decide +kernel
theorem dX11_song_68 : decode cX11_song 68 = .ok (.invokevirtual 86, 3) := by decide +kernel
theorem dX11_song_71 : decode cX11_song 71 = .ok (.iconst 1, 1) := by decide +kernel
theorem dX11_song_72 : decode cX11_song 72 = .ok (.isub, 1) := by decide +kernel
theorem dX11_song_73 : decode cX11_song 73 = .ok (.ireturn, 1) := by decide +kernel
theorem dX11_task_0 : decode cX11_task 0 = .ok (.iload_n 1, 1) := by decide +kernel
theorem dX11_task_1 : decode cX11_task 1 = .ok (.iload_n 2, 1) := by decide +kernel
theorem dX11_task_2 : decode cX11_task 2 = .ok (.iload_n 3, 1) := by decide +kernel
theorem dX11_task_3 : decode cX11_task 3 = .ok (.invokestatic 151, 3) := by decide +kernel
theorem dX11_task_6 : decode cX11_task 6 = .ok (.ifCond .ne 6, 3) := by decide +kernel
theorem dX11_task_9 : decode cX11_task 9 = .ok (.bipush (-2), 2) := by decide +kernel
theorem dX11_task_11 : decode cX11_task 11 = .ok (.ireturn, 1) := by decide +kernel
theorem dX11_task_12 : decode cX11_task 12 = .ok (.aload_n 0, 1) := by decide +kernel
theorem dX11_task_13 : decode cX11_task 13 = .ok (.getfield 37, 3) := by decide +kernel
theorem dX11_task_16 : decode cX11_task 16 = .ok (.invokevirtual 86, 3) := by decide +kernel
theorem dX11_task_19 : decode cX11_task 19 = .ok (.iconst 4, 1) := by decide +kernel
theorem dX11_task_20 : decode cX11_task 20 = .ok (.if_icmp .lt 6, 3) := by decide +kernel
theorem dX11_task_23 : decode cX11_task 23 = .ok (.bipush (-4), 2) := by decide +kernel
theorem dX11_task_25 : decode cX11_task 25 = .ok (.ireturn, 1) := by decide +kernel
theorem dX11_task_26 : decode cX11_task 26 = .ok (.aload_n 0, 1) := by decide +kernel
theorem dX11_task_27 : decode cX11_task 27 = .ok (.getfield 37, 3) := by decide +kernel
theorem dX11_task_30 : decode cX11_task 30 = .ok (.new 158, 3) := by decide +kernel
theorem dX11_task_33 : decode cX11_task 33 = .ok (.dup, 1) := by decide +kernel
theorem dX11_task_34 : decode cX11_task 34 = .ok (.iload_n 1, 1) := by decide +kernel
theorem dX11_task_35 : decode cX11_task 35 = .ok (.iload_n 2, 1) := by decide +kernel
theorem dX11_task_36 : decode cX11_task 36 = .ok (.iload_n 3, 1) := by decide +kernel
theorem dX11_task_37 : decode cX11_task 37 = .ok (.invokespecial 160, 3) := by decide +kernel
theorem dX11_task_40 : decode cX11_task 40 = .ok (.invokevirtual 99, 3) := by decide +kernel
theorem dX11_task_43 : decode cX11_task 43 = .ok (.pop, 1) := by decide +kernel
theorem dX11_task_44 : decode cX11_task 44 = .ok (.aload_n 0, 1) := by decide +kernel
theorem dX11_task_45 : decode cX11_task 45 = .ok (.getfield 43, 3) := by decide +kernel
theorem dX11_task_48 : decode cX11_task 48 = .ok (.iconst 0, 1) := by decide +kernel
theorem dX11_task_49 : decode cX11_task 49 = .ok (.putfield 102, 3) := by decide +kernel
theorem dX11_task_52 : decode cX11_task 52 = .ok (.aload_n 0, 1) := by decide +kernel
theorem dX11_task_53 : decode cX11_task 53 = .ok (.getfield 37, 3) := by decide +kernel
theorem dX11_task_56 : decode cX11_task 56 = .ok (.invokevirtual 86, 3) := by decide +kernel
theorem dX11_task_59 : decode cX11_task 59 = .ok (.iconst 1, 1) := by decide +kernel
theorem dX11_task_60 : decode cX11_task 60 = .ok (.isub, 1) := by decide +kernel
theorem dX11_task_61 : decode cX11_task 61 = .ok (.ireturn, 1) := by decide +kernel
theorem dX11_tree_0 : decode cX11_tree 0 = .ok (.aload_n 0, 1) := by decide +kernel
theorem dX11_tree_1 : decode cX11_tree 1 = .ok (.getfield 74, 3) := by decide +kernel
theorem dX11_tree_4 : decode cX11_tree 4 = .ok (.aload_n 0, 1) := by decide +kernel
theorem dX11_tree_5 : decode cX11_tree 5 = .ok (.getfield 19, 3) := by decide +kernel
theorem dX11_tree_8 : decode cX11_tree 8 = .ok (.invokevirtual 284, 3) := by decide +kernel
theorem dX11_tree_11 : decode cX11_tree 11 = .ok (.ireturn, 1) := by decide +kernel
theorem dX1_beginFresh_0 : decode cX1_beginFresh 0 = .ok (.aload_n 1, 1) := by decide +kernel
theorem dX1_beginFresh_1 : decode cX1_beginFresh 1 = .ok (.getfield 44, 3) := by decide +kernel
theorem dX1_beginFresh_4 : decode cX1_beginFresh 4 = .ok (.aload_n 0, 1) := by decide +kernel
theorem dX1_beginFresh_5 : decode cX1_beginFresh 5 = .ok (.getfield 9, 3) := by decide +kernel
theorem dX1_beginFresh_8 : decode cX1_beginFresh 8 = .ok (.invokestatic 30, 3) := by decide +kernel
theorem dX1_beginFresh_11 : decode cX1_beginFresh 11 = .ok (.iconst 0, 1) := by decide +kernel
theorem dX1_beginFresh_12 : decode cX1_beginFresh 12 = .ok (.istore_n 2, 1) := by decide +kernel
theorem dX1_beginFresh_13 : decode cX1_beginFresh 13 = .ok (.iload_n 2, 1) := by decide +kernel
theorem dX1_beginFresh_14 : decode cX1_beginFresh 14 = .ok (.bipush 10, 2) := by decide +kernel
theorem dX1_beginFresh_16 : decode cX1_beginFresh 16 = .ok (.if_icmp .ge 16, 3) := by decide +kernel
theorem dX1_beginFresh_19 : decode cX1_beginFresh 19 = .ok (.aload_n 0, 1) := by decide +kernel
theorem dX1_beginFresh_20 : decode cX1_beginFresh 20 = .ok (.getfield 15, 3) := by decide +kernel
theorem dX1_beginFresh_23 : decode cX1_beginFresh 23 = .ok (.iload_n 2, 1) := by decide +kernel
theorem dX1_beginFresh_24 : decode cX1_beginFresh 24 = .ok (.iconst 0, 1) := by decide +kernel
theorem dX1_beginFresh_25 : decode cX1_beginFresh 25 = .ok (.iastore, 1) := by decide +kernel
theorem dX1_beginFresh_26 : decode cX1_beginFresh 26 = .ok (.iinc 2 1, 3) := by decide +kernel
theorem dX1_beginFresh_29 : decode cX1_beginFresh 29 = .ok (.goto (-16), 3) := by decide +kernel
theorem dX1_beginFresh_32 : decode cX1_beginFresh 32 = .ok (.aload_n 0, 1) := by decide +kernel
theorem dX1_beginFresh_33 : decode cX1_beginFresh 33 = .ok (.aload_n 1, 1) := by decide +kernel
theorem dX1_beginFresh_34 : decode cX1_beginFresh 34 = .ok (.getfield 35, 3) := by decide +kernel
theorem dX1_beginFresh_37 : decode cX1_beginFresh 37 = .ok (.putfield 39, 3) := by decide +kernel
theorem dX1_beginFresh_40 : decode cX1_beginFresh 40 = .ok (.aload_n 0, 1) := by decide +kernel
theorem dX1_beginFresh_41 : decode cX1_beginFresh 41 = .ok (.iconst 0, 1) := by decide +kernel
theorem dX1_beginFresh_42 : decode cX1_beginFresh 42 = .ok (.putfield 43, 3) := by decide +kernel
theorem dX1_beginFresh_45 : decode cX1_beginFresh 45 = .ok (.return_, 1) := by decide +kernel
theorem dX5_span_0 : decode cX5_span 0 = .ok (.iconst 0, 1) := by decide +kernel
theorem dX5_span_1 : decode cX5_span 1 = .ok (.istore_n 1, 1) := by decide +kernel
theorem dX5_span_2 : decode cX5_span 2 = .ok (.iconst 0, 1) := by decide +kernel
theorem dX5_span_3 : decode cX5_span 3 = .ok (.istore_n 2, 1) := by decide +kernel
theorem dX5_span_4 : decode cX5_span 4 = .ok (.iload_n 2, 1) := by decide +kernel
theorem dX5_span_5 : decode cX5_span 5 = .ok (.aload_n 0, 1) := by decide +kernel
theorem dX5_span_6 : decode cX5_span 6 = .ok (.getfield 18, 3) := by decide +kernel
theorem dX5_span_9 : decode cX5_span 9 = .ok (.if_icmp .ge 22, 3) := by decide +kernel
theorem dX5_span_12 : decode cX5_span 12 = .ok (.iload_n 1, 1) := by decide +kernel
theorem dX5_span_13 : decode cX5_span 13 = .ok (.aload_n 0, 1) := by decide +kernel
theorem dX5_span_14 : decode cX5_span 14 = .ok (.getfield 9, 3) := by decide +kernel
theorem dX5_span_17 : decode cX5_span 17 = .ok (.iload_n 2, 1) := by decide +kernel
theorem dX5_span_18 : decode cX5_span 18 = .ok (.iaload, 1) := by decide +kernel
theorem dX5_span_19 : decode cX5_span 19 = .ok (.iconst 1, 1) := by decide +kernel
theorem dX5_span_20 : decode cX5_span 20 = .ok (.iadd, 1) := by decide +kernel
theorem dX5_span_21 : decode cX5_span 21 = .ok (.invokestatic 22, 3) := by decide +kernel
theorem dX5_span_24 : decode cX5_span 24 = .ok (.istore_n 1, 1) := by decide +kernel
theorem dX5_span_25 : decode cX5_span 25 = .ok (.iinc 2 1, 3) := by decide +kernel
theorem dX5_span_28 : decode cX5_span 28 = .ok (.goto (-24), 3) := by decide +kernel
theorem dX5_span_31 : decode cX5_span 31 = .ok (.iload_n 1, 1) := by decide +kernel
theorem dX5_span_32 : decode cX5_span 32 = .ok (.ireturn, 1) := by decide +kernel
theorem dX5_differenceTo_0 : decode cX5_differenceTo 0 = .ok (.iconst 0, 1) := by decide +kernel
theorem dX5_differenceTo_1 : decode cX5_differenceTo 1 = .ok (.istore_n 2, 1) := by decide +kernel
theorem dX5_differenceTo_2 : decode cX5_differenceTo 2 = .ok (.iconst 0, 1) := by decide +kernel
theorem dX5_differenceTo_3 : decode cX5_differenceTo 3 = .ok (.istore_n 3, 1) := by decide +kernel
theorem dX5_differenceTo_4 : decode cX5_differenceTo 4 = .ok (.iload_n 3, 1) := by decide +kernel
theorem dX5_differenceTo_5 : decode cX5_differenceTo 5 = .ok (.aload_n 0, 1) := by decide +kernel
theorem dX5_differenceTo_6 : decode cX5_differenceTo 6 = .ok (.getfield 18, 3) := by decide +kernel
theorem dX5_differenceTo_9 : decode cX5_differenceTo 9 = .ok (.if_icmp .ge 47, 3) := by decide +kernel
theorem dX5_differenceTo_12 : decode cX5_differenceTo 12 = .ok (.aload_n 0, 1) := by decide +kernel
theorem dX5_differenceTo_13 : decode cX5_differenceTo 13 = .ok (.getfield 9, 3) := by decide +kernel
theorem dX5_differenceTo_16 : decode cX5_differenceTo 16 = .ok (.iload_n 3, 1) := by decide +kernel
theorem dX5_differenceTo_17 : decode cX5_differenceTo 17 = .ok (.iaload, 1) := by decide +kernel
theorem dX5_differenceTo_18 : decode cX5_differenceTo 18 = .ok (.iconst 0, 1) := by decide +kernel
theorem dX5_differenceTo_19 : decode cX5_differenceTo 19 = .ok (.aload_n 1, 1) := by decide +kernel
theorem dX5_differenceTo_20 : decode cX5_differenceTo 20 = .ok (.arraylength, 1) := by decide +kernel
theorem dX5_differenceTo_21 : decode cX5_differenceTo 21 = .ok (.iconst 1, 1) := by decide +kernel
theorem dX5_differenceTo_22 : decode cX5_differenceTo 22 = .ok (.isub, 1) := by decide +kernel
theorem dX5_differenceTo_23 : decode cX5_differenceTo 23 = .ok (.invokestatic 28, 3) := by decide +kernel
theorem dX5_differenceTo_26 : decode cX5_differenceTo 26 = .ok (.ifCond .eq 24, 3) := by decide +kernel
theorem dX5_differenceTo_29 : decode cX5_differenceTo 29 = .ok (.iload_n 2, 1) := by decide +kernel
theorem dX5_differenceTo_30 : decode cX5_differenceTo 30 = .ok (.aload_n 1, 1) := by decide +kernel
theorem dX5_differenceTo_31 : decode cX5_differenceTo 31 = .ok (.aload_n 0, 1) := by decide +kernel
theorem dX5_differenceTo_32 : decode cX5_differenceTo 32 = .ok (.getfield 9, 3) := by decide +kernel
theorem dX5_differenceTo_35 : decode cX5_differenceTo 35 = .ok (.iload_n 3, 1) := by decide +kernel
theorem dX5_differenceTo_36 : decode cX5_differenceTo 36 = .ok (.iaload, 1) := by decide +kernel
theorem dX5_differenceTo_37 : decode cX5_differenceTo 37 = .ok (.iaload, 1) := by decide +kernel
theorem dX5_differenceTo_38 : decode cX5_differenceTo 38 = .ok (.aload_n 0, 1) := by decide +kernel
theorem dX5_differenceTo_39 : decode cX5_differenceTo 39 = .ok (.getfield 15, 3) := by decide +kernel
theorem dX5_differenceTo_42 : decode cX5_differenceTo 42 = .ok (.iload_n 3, 1) := by decide +kernel
theorem dX5_differenceTo_43 : decode cX5_differenceTo 43 = .ok (.iaload, 1) := by decide +kernel
theorem dX5_differenceTo_44 : decode cX5_differenceTo 44 = .ok (.isub, 1) := by decide +kernel
theorem dX5_differenceTo_45 : decode cX5_differenceTo 45 = .ok (.invokestatic 32, 3) := by decide +kernel
theorem dX5_differenceTo_48 : decode cX5_differenceTo 48 = .ok (.iadd, 1) := by decide +kernel
theorem dX5_differenceTo_49 : decode cX5_differenceTo 49 = .ok (.istore_n 2, 1) := by decide +kernel
theorem dX5_differenceTo_50 : decode cX5_differenceTo 50 = .ok (.iinc 3 1, 3) := by decide +kernel
theorem dX5_differenceTo_53 : decode cX5_differenceTo 53 = .ok (.goto (-49), 3) := by decide +kernel
theorem dX5_differenceTo_56 : decode cX5_differenceTo 56 = .ok (.iload_n 2, 1) := by decide +kernel
theorem dX5_differenceTo_57 : decode cX5_differenceTo 57 = .ok (.ireturn, 1) := by decide +kernel
theorem dX3_sumOfTrial_0 : decode cX3_sumOfTrial 0 = .ok (.aload_n 0, 1) := by decide +kernel
theorem dX3_sumOfTrial_1 : decode cX3_sumOfTrial 1 = .ok (.getfield 12, 3) := by decide +kernel
theorem dX3_sumOfTrial_4 : decode cX3_sumOfTrial 4 = .ok (.aload_n 1, 1) := by decide +kernel
theorem dX3_sumOfTrial_5 : decode cX3_sumOfTrial 5 = .ok (.aload_n 2, 1) := by decide +kernel
theorem dX3_sumOfTrial_6 : decode cX3_sumOfTrial 6 = .ok (.aload_n 3, 1) := by decide +kernel
theorem dX3_sumOfTrial_7 : decode cX3_sumOfTrial 7 = .ok (.aload 4, 2) := by decide +kernel
theorem dX3_sumOfTrial_9 : decode cX3_sumOfTrial 9 = .ok (.invokevirtual 63, 3) := by decide +kernel
theorem dX3_sumOfTrial_12 : decode cX3_sumOfTrial 12 = .ok (.invokevirtual 69, 3) := by decide +kernel
theorem dX3_sumOfTrial_15 : decode cX3_sumOfTrial 15 = .ok (.pop, 1) := by decide +kernel
theorem dX3_sumOfTrial_16 : decode cX3_sumOfTrial 16 = .ok (.aload 4, 2) := by decide +kernel
theorem dX3_sumOfTrial_18 : decode cX3_sumOfTrial 18 = .ok (.aload_n 0, 1) := by decide +kernel
theorem dX3_sumOfTrial_19 : decode cX3_sumOfTrial 19 = .ok (.getfield 12, 3) := by decide +kernel
theorem dX3_sumOfTrial_22 : decode cX3_sumOfTrial 22 = .ok (.getfield 73, 3) := by decide +kernel
theorem dX3_sumOfTrial_25 : decode cX3_sumOfTrial 25 = .ok (.invokevirtual 76, 3) := by decide +kernel
theorem dX3_sumOfTrial_28 : decode cX3_sumOfTrial 28 = .ok (.ireturn, 1) := by decide +kernel
theorem dX3_tryPair_0 : decode cX3_tryPair 0 = .ok (.iconst 1, 1) := by decide +kernel
theorem dX3_tryPair_1 : decode cX3_tryPair 1 = .ok (.istore 7, 2) := by decide +kernel
theorem dX3_tryPair_3 : decode cX3_tryPair 3 = .ok (.iload 7, 2) := by decide +kernel
theorem dX3_tryPair_5 : decode cX3_tryPair 5 = .ok (.iconst 3, 1) := by decide +kernel
theorem dX3_tryPair_6 : decode cX3_tryPair 6 = .ok (.if_icmp .gt 106, 3) := by decide +kernel
theorem dX3_tryPair_9 : decode cX3_tryPair 9 = .ok (.iconst 1, 1) := by decide +kernel
theorem dX3_tryPair_10 : decode cX3_tryPair 10 = .ok (.istore 8, 2) := by decide +kernel
theorem dX3_tryPair_12 : decode cX3_tryPair 12 = .ok (.iload 8, 2) := by decide +kernel
theorem dX3_tryPair_14 : decode cX3_tryPair 14 = .ok (.iconst 3, 1) := by decide +kernel
theorem dX3_tryPair_15 : decode cX3_tryPair 15 = .ok (.if_icmp .gt 91, 3) := by decide +kernel
theorem dX3_tryPair_18 : decode cX3_tryPair 18 = .ok (.aload_n 0, 1) := by decide +kernel
theorem dX3_tryPair_19 : decode cX3_tryPair 19 = .ok (.getfield 12, 3) := by decide +kernel
theorem dX3_tryPair_22 : decode cX3_tryPair 22 = .ok (.aload_n 1, 1) := by decide +kernel
theorem dX3_tryPair_23 : decode cX3_tryPair 23 = .ok (.invokevirtual 25, 3) := by decide +kernel
theorem dX3_tryPair_26 : decode cX3_tryPair 26 = .ok (.aload_n 0, 1) := by decide +kernel
theorem dX3_tryPair_27 : decode cX3_tryPair 27 = .ok (.getfield 12, 3) := by decide +kernel
theorem dX3_tryPair_30 : decode cX3_tryPair 30 = .ok (.getfield 48, 3) := by decide +kernel
theorem dX3_tryPair_33 : decode cX3_tryPair 33 = .ok (.iload 5, 2) := by decide +kernel
theorem dX3_tryPair_35 : decode cX3_tryPair 35 = .ok (.iload 7, 2) := by decide +kernel
theorem dX3_tryPair_37 : decode cX3_tryPair 37 = .ok (.iastore, 1) := by decide +kernel
theorem dX3_tryPair_38 : decode cX3_tryPair 38 = .ok (.aload_n 0, 1) := by decide +kernel
theorem dX3_tryPair_39 : decode cX3_tryPair 39 = .ok (.getfield 12, 3) := by decide +kernel
theorem dX3_tryPair_42 : decode cX3_tryPair 42 = .ok (.getfield 48, 3) := by decide +kernel
theorem dX3_tryPair_45 : decode cX3_tryPair 45 = .ok (.iload 6, 2) := by decide +kernel
theorem dX3_tryPair_47 : decode cX3_tryPair 47 = .ok (.iload 8, 2) := by decide +kernel
theorem dX3_tryPair_49 : decode cX3_tryPair 49 = .ok (.iastore, 1) := by decide +kernel
theorem dX3_tryPair_50 : decode cX3_tryPair 50 = .ok (.aload_n 0, 1) := by decide +kernel
theorem dX3_tryPair_51 : decode cX3_tryPair 51 = .ok (.aload_n 1, 1) := by decide +kernel
theorem dX3_tryPair_52 : decode cX3_tryPair 52 = .ok (.aload_n 2, 1) := by decide +kernel
theorem dX3_tryPair_53 : decode cX3_tryPair 53 = .ok (.aload_n 3, 1) := by decide +kernel
theorem dX3_tryPair_54 : decode cX3_tryPair 54 = .ok (.aload 4, 2) := by decide +kernel
theorem dX3_tryPair_56 : decode cX3_tryPair 56 = .ok (.invokevirtual 29, 3) := by decide +kernel
theorem dX3_tryPair_59 : decode cX3_tryPair 59 = .ok (.istore 9, 2) := by decide +kernel
theorem dX3_tryPair_61 : decode cX3_tryPair 61 = .ok (.iload 9, 2) := by decide +kernel
theorem dX3_tryPair_63 : decode cX3_tryPair 63 = .ok (.aload_n 0, 1) := by decide +kernel
theorem dX3_tryPair_64 : decode cX3_tryPair 64 = .ok (.getfield 33, 3) := by decide +kernel
theorem dX3_tryPair_67 : decode cX3_tryPair 67 = .ok (.if_icmp .ge 33, 3) := by decide +kernel
theorem dX3_tryPair_70 : decode cX3_tryPair 70 = .ok (.aload_n 0, 1) := by decide +kernel
theorem dX3_tryPair_71 : decode cX3_tryPair 71 = .ok (.iload 9, 2) := by decide +kernel
theorem dX3_tryPair_73 : decode cX3_tryPair 73 = .ok (.putfield 33, 3) := by decide +kernel
theorem dX3_tryPair_76 : decode cX3_tryPair 76 = .ok (.aload_n 0, 1) := by decide +kernel
theorem dX3_tryPair_77 : decode cX3_tryPair 77 = .ok (.iload 5, 2) := by decide +kernel
theorem dX3_tryPair_79 : decode cX3_tryPair 79 = .ok (.putfield 18, 3) := by decide +kernel
theorem dX3_tryPair_82 : decode cX3_tryPair 82 = .ok (.aload_n 0, 1) := by decide +kernel
theorem dX3_tryPair_83 : decode cX3_tryPair 83 = .ok (.iload 6, 2) := by decide +kernel
theorem dX3_tryPair_85 : decode cX3_tryPair 85 = .ok (.putfield 57, 3) := by decide +kernel
theorem dX3_tryPair_88 : decode cX3_tryPair 88 = .ok (.aload_n 0, 1) := by decide +kernel
theorem dX3_tryPair_89 : decode cX3_tryPair 89 = .ok (.iload 7, 2) := by decide +kernel
theorem dX3_tryPair_91 : decode cX3_tryPair 91 = .ok (.putfield 22, 3) := by decide +kernel
theorem dX3_tryPair_94 : decode cX3_tryPair 94 = .ok (.aload_n 0, 1) := by decide +kernel
theorem dX3_tryPair_95 : decode cX3_tryPair 95 = .ok (.iload 8, 2) := by decide +kernel
theorem dX3_tryPair_97 : decode cX3_tryPair 97 = .ok (.putfield 60, 3) := by decide +kernel
theorem dX3_tryPair_100 : decode cX3_tryPair 100 = .ok (.iinc 8 1, 3) := by decide +kernel
theorem dX3_tryPair_103 : decode cX3_tryPair 103 = .ok (.goto (-91), 3) := by decide +kernel
theorem dX3_tryPair_106 : decode cX3_tryPair 106 = .ok (.iinc 7 1, 3) := by decide +kernel
theorem dX3_tryPair_109 : decode cX3_tryPair 109 = .ok (.goto (-106), 3) := by decide +kernel
theorem dX3_tryPair_112 : decode cX3_tryPair 112 = .ok (.return_, 1) := by decide +kernel
theorem dX3_findTwo_0 : decode cX3_findTwo 0 = .ok (.aload_n 0, 1) := by decide +kernel
theorem dX3_findTwo_1 : decode cX3_findTwo 1 = .ok (.ldc 52, 2) := by decide +kernel
theorem dX3_findTwo_3 : decode cX3_findTwo 3 = .ok (.putfield 33, 3) := by decide +kernel
theorem dX3_findTwo_6 : decode cX3_findTwo 6 = .ok (.iconst 0, 1) := by decide +kernel
theorem dX3_findTwo_7 : decode cX3_findTwo 7 = .ok (.istore 5, 2) := by decide +kernel
theorem dX3_findTwo_9 : decode cX3_findTwo 9 = .ok (.iload 5, 2) := by decide +kernel
theorem dX3_findTwo_11 : decode cX3_findTwo 11 = .ok (.aload_n 1, 1) := by decide +kernel
theorem dX3_findTwo_12 : decode cX3_findTwo 12 = .ok (.getfield 36, 3) := by decide +kernel
theorem dX3_findTwo_15 : decode cX3_findTwo 15 = .ok (.if_icmp .ge 67, 3) := by decide +kernel
theorem dX3_findTwo_18 : decode cX3_findTwo 18 = .ok (.iload 5, 2) := by decide +kernel
theorem dX3_findTwo_20 : decode cX3_findTwo 20 = .ok (.iconst 1, 1) := by decide +kernel
theorem dX3_findTwo_21 : decode cX3_findTwo 21 = .ok (.iadd, 1) := by decide +kernel
theorem dX3_findTwo_22 : decode cX3_findTwo 22 = .ok (.istore 6, 2) := by decide +kernel
theorem dX3_findTwo_24 : decode cX3_findTwo 24 = .ok (.iload 6, 2) := by decide +kernel
theorem dX3_findTwo_26 : decode cX3_findTwo 26 = .ok (.aload_n 1, 1) := by decide +kernel
theorem dX3_findTwo_27 : decode cX3_findTwo 27 = .ok (.getfield 36, 3) := by decide +kernel
theorem dX3_findTwo_30 : decode cX3_findTwo 30 = .ok (.if_icmp .ge 46, 3) := by decide +kernel
theorem dX3_findTwo_33 : decode cX3_findTwo 33 = .ok (.aload_n 1, 1) := by decide +kernel
theorem dX3_findTwo_34 : decode cX3_findTwo 34 = .ok (.getfield 41, 3) := by decide +kernel
theorem dX3_findTwo_37 : decode cX3_findTwo 37 = .ok (.iload 5, 2) := by decide +kernel
theorem dX3_findTwo_39 : decode cX3_findTwo 39 = .ok (.invokestatic 44, 3) := by decide +kernel
theorem dX3_findTwo_42 : decode cX3_findTwo 42 = .ok (.ifCond .eq 28, 3) := by decide +kernel
theorem dX3_findTwo_45 : decode cX3_findTwo 45 = .ok (.aload_n 1, 1) := by decide +kernel
theorem dX3_findTwo_46 : decode cX3_findTwo 46 = .ok (.getfield 41, 3) := by decide +kernel
theorem dX3_findTwo_49 : decode cX3_findTwo 49 = .ok (.iload 6, 2) := by decide +kernel
theorem dX3_findTwo_51 : decode cX3_findTwo 51 = .ok (.invokestatic 44, 3) := by decide +kernel
theorem dX3_findTwo_54 : decode cX3_findTwo 54 = .ok (.ifCond .eq 16, 3) := by decide +kernel
theorem dX3_findTwo_57 : decode cX3_findTwo 57 = .ok (.aload_n 0, 1) := by decide +kernel
theorem dX3_findTwo_58 : decode cX3_findTwo 58 = .ok (.aload_n 1, 1) := by decide +kernel
theorem dX3_findTwo_59 : decode cX3_findTwo 59 = .ok (.aload_n 2, 1) := by decide +kernel
theorem dX3_findTwo_60 : decode cX3_findTwo 60 = .ok (.aload_n 3, 1) := by decide +kernel
theorem dX3_findTwo_61 : decode cX3_findTwo 61 = .ok (.aload 4, 2) := by decide +kernel
theorem dX3_findTwo_63 : decode cX3_findTwo 63 = .ok (.iload 5, 2) := by decide +kernel
theorem dX3_findTwo_65 : decode cX3_findTwo 65 = .ok (.iload 6, 2) := by decide +kernel
theorem dX3_findTwo_67 : decode cX3_findTwo 67 = .ok (.invokevirtual 53, 3) := by decide +kernel
theorem dX3_findTwo_70 : decode cX3_findTwo 70 = .ok (.iinc 6 1, 3) := by decide +kernel
theorem dX3_findTwo_73 : decode cX3_findTwo 73 = .ok (.goto (-49), 3) := by decide +kernel
theorem dX3_findTwo_76 : decode cX3_findTwo 76 = .ok (.iinc 5 1, 3) := by decide +kernel
theorem dX3_findTwo_79 : decode cX3_findTwo 79 = .ok (.goto (-70), 3) := by decide +kernel
theorem dX3_findTwo_82 : decode cX3_findTwo 82 = .ok (.return_, 1) := by decide +kernel
theorem dX11_two_0 : decode cX11_two 0 = .ok (.aload_n 0, 1) := by decide +kernel
theorem dX11_two_1 : decode cX11_two 1 = .ok (.iload_n 1, 1) := by decide +kernel
theorem dX11_two_2 : decode cX11_two 2 = .ok (.invokevirtual 106, 3) := by decide +kernel
theorem dX11_two_5 : decode cX11_two 5 = .ok (.astore 5, 2) := by decide +kernel
theorem dX11_two_7 : decode cX11_two 7 = .ok (.aload 5, 2) := by decide +kernel
theorem dX11_two_9 : decode cX11_two 9 = .ok (.ifnull 21, 3) := by decide +kernel
theorem dX11_two_12 : decode cX11_two 12 = .ok (.iload_n 2, 1) := by decide +kernel
theorem dX11_two_13 : decode cX11_two 13 = .ok (.iload_n 3, 1) := by decide +kernel
theorem dX11_two_14 : decode cX11_two 14 = .ok (.invokestatic 250, 3) := by decide +kernel
theorem dX11_two_17 : decode cX11_two 17 = .ok (.ifCond .eq 13, 3) := by decide +kernel
theorem dX11_two_20 : decode cX11_two 20 = .ok (.iload 4, 2) := by decide +kernel
theorem dX11_two_22 : decode cX11_two 22 = .ok (.iconst 0, 1) := by decide +kernel
theorem dX11_two_23 : decode cX11_two 23 = .ok (.iconst 4, 1) := by decide +kernel
theorem dX11_two_24 : decode cX11_two 24 = .ok (.invokestatic 113, 3) := by decide +kernel
theorem dX11_two_27 : decode cX11_two 27 = .ok (.ifCond .ne 6, 3) := by decide +kernel
theorem dX11_two_30 : decode cX11_two 30 = .ok (.bipush (-2), 2) := by decide +kernel
theorem dX11_two_32 : decode cX11_two 32 = .ok (.ireturn, 1) := by decide +kernel
theorem dX11_two_33 : decode cX11_two 33 = .ok (.aload_n 0, 1) := by decide +kernel
theorem dX11_two_34 : decode cX11_two 34 = .ok (.getfield 26, 3) := by decide +kernel
theorem dX11_two_37 : decode cX11_two 37 = .ok (.getfield 135, 3) := by decide +kernel
theorem dX11_two_40 : decode cX11_two 40 = .ok (.invokestatic 266, 3) := by decide +kernel
theorem dX11_two_43 : decode cX11_two 43 = .ok (.iconst 2, 1) := by decide +kernel
theorem dX11_two_44 : decode cX11_two 44 = .ok (.if_icmp .ge 5, 3) := by decide +kernel
theorem dX11_two_47 : decode cX11_two 47 = .ok (.iconst (-1), 1) := by decide +kernel
theorem dX11_two_48 : decode cX11_two 48 = .ok (.ireturn, 1) := by decide +kernel
theorem dX11_two_49 : decode cX11_two 49 = .ok (.aload_n 0, 1) := by decide +kernel
theorem dX11_two_50 : decode cX11_two 50 = .ok (.getfield 67, 3) := by decide +kernel
theorem dX11_two_53 : decode cX11_two 53 = .ok (.aload_n 0, 1) := by decide +kernel
theorem dX11_two_54 : decode cX11_two 54 = .ok (.getfield 26, 3) := by decide +kernel
theorem dX11_two_57 : decode cX11_two 57 = .ok (.aload 5, 2) := by decide +kernel
theorem dX11_two_59 : decode cX11_two 59 = .ok (.new 158, 3) := by decide +kernel
theorem dX11_two_62 : decode cX11_two 62 = .ok (.dup, 1) := by decide +kernel
theorem dX11_two_63 : decode cX11_two 63 = .ok (.ldc 199, 2) := by decide +kernel
theorem dX11_two_65 : decode cX11_two 65 = .ok (.iload_n 2, 1) := by decide +kernel
theorem dX11_two_66 : decode cX11_two 66 = .ok (.iload_n 3, 1) := by decide +kernel
theorem dX11_two_67 : decode cX11_two 67 = .ok (.invokespecial 160, 3) := by decide +kernel
theorem dX11_two_70 : decode cX11_two 70 = .ok (.aload_n 0, 1) := by decide +kernel
theorem dX11_two_71 : decode cX11_two 71 = .ok (.getfield 60, 3) := by decide +kernel
theorem dX11_two_74 : decode cX11_two 74 = .ok (.invokevirtual 271, 3) := by decide +kernel
theorem dX11_two_77 : decode cX11_two 77 = .ok (.iload 4, 2) := by decide +kernel
theorem dX11_two_79 : decode cX11_two 79 = .ok (.tableswitch 61 0 3 #[29, 37, 45, 53], 29) := by decide +kernel
theorem dX11_two_108 : decode cX11_two 108 = .ok (.aload_n 0, 1) := by decide +kernel
theorem dX11_two_109 : decode cX11_two 109 = .ok (.getfield 67, 3) := by decide +kernel
theorem dX11_two_112 : decode cX11_two 112 = .ok (.getfield 257, 3) := by decide +kernel
theorem dX11_two_115 : decode cX11_two 115 = .ok (.ireturn, 1) := by decide +kernel
theorem dX11_two_116 : decode cX11_two 116 = .ok (.aload_n 0, 1) := by decide +kernel
theorem dX11_two_117 : decode cX11_two 117 = .ok (.getfield 67, 3) := by decide +kernel
theorem dX11_two_120 : decode cX11_two 120 = .ok (.getfield 274, 3) := by decide +kernel
theorem dX11_two_123 : decode cX11_two 123 = .ok (.ireturn, 1) := by decide +kernel
theorem dX11_two_124 : decode cX11_two 124 = .ok (.aload_n 0, 1) := by decide +kernel
theorem dX11_two_125 : decode cX11_two 125 = .ok (.getfield 67, 3) := by decide +kernel
theorem dX11_two_128 : decode cX11_two 128 = .ok (.getfield 260, 3) := by decide +kernel
theorem dX11_two_131 : decode cX11_two 131 = .ok (.ireturn, 1) := by decide +kernel
theorem dX11_two_132 : decode cX11_two 132 = .ok (.aload_n 0, 1) := by decide +kernel
theorem dX11_two_133 : decode cX11_two 133 = .ok (.getfield 67, 3) := by decide +kernel
theorem dX11_two_136 : decode cX11_two 136 = .ok (.getfield 277, 3) := by decide +kernel
theorem dX11_two_139 : decode cX11_two 139 = .ok (.ireturn, 1) := by decide +kernel
theorem dX11_two_140 : decode cX11_two 140 = .ok (.aload_n 0, 1) := by decide +kernel
theorem dX11_two_141 : decode cX11_two 141 = .ok (.getfield 67, 3) := by decide +kernel
theorem dX11_two_144 : decode cX11_two 144 = .ok (.getfield 263, 3) := by decide +kernel
theorem dX11_two_147 : decode cX11_two 147 = .ok (.ireturn, 1) := by decide +kernel
theorem dX3_findOne_0 : decode cX3_findOne 0 = .ok (.aload_n 0, 1) := by decide +kernel
theorem dX3_findOne_1 : decode cX3_findOne 1 = .ok (.iconst (-1), 1) := by decide +kernel
theorem dX3_findOne_2 : decode cX3_findOne 2 = .ok (.putfield 18, 3) := by decide +kernel
theorem dX3_findOne_5 : decode cX3_findOne 5 = .ok (.aload_n 0, 1) := by decide +kernel
theorem dX3_findOne_6 : decode cX3_findOne 6 = .ok (.iconst 0, 1) := by decide +kernel
theorem dX3_findOne_7 : decode cX3_findOne 7 = .ok (.putfield 22, 3) := by decide +kernel
theorem dX3_findOne_10 : decode cX3_findOne 10 = .ok (.aload_n 0, 1) := by decide +kernel
theorem dX3_findOne_11 : decode cX3_findOne 11 = .ok (.getfield 12, 3) := by decide +kernel
theorem dX3_findOne_14 : decode cX3_findOne 14 = .ok (.aload_n 1, 1) := by decide +kernel
theorem dX3_findOne_15 : decode cX3_findOne 15 = .ok (.invokevirtual 25, 3) := by decide +kernel
theorem dX3_findOne_18 : decode cX3_findOne 18 = .ok (.aload_n 0, 1) := by decide +kernel
theorem dX3_findOne_19 : decode cX3_findOne 19 = .ok (.aload_n 0, 1) := by decide +kernel
theorem dX3_findOne_20 : decode cX3_findOne 20 = .ok (.aload_n 1, 1) := by decide +kernel
theorem dX3_findOne_21 : decode cX3_findOne 21 = .ok (.aload_n 2, 1) := by decide +kernel
theorem dX3_findOne_22 : decode cX3_findOne 22 = .ok (.aload_n 3, 1) := by decide +kernel
theorem dX3_findOne_23 : decode cX3_findOne 23 = .ok (.aload 4, 2) := by decide +kernel
theorem dX3_findOne_25 : decode cX3_findOne 25 = .ok (.invokevirtual 29, 3) := by decide +kernel
theorem dX3_findOne_28 : decode cX3_findOne 28 = .ok (.putfield 33, 3) := by decide +kernel
theorem dX3_findOne_31 : decode cX3_findOne 31 = .ok (.iconst 0, 1) := by decide +kernel
theorem dX3_findOne_32 : decode cX3_findOne 32 = .ok (.istore 5, 2) := by decide +kernel
theorem dX3_findOne_34 : decode cX3_findOne 34 = .ok (.iload 5, 2) := by decide +kernel
theorem dX3_findOne_36 : decode cX3_findOne 36 = .ok (.aload_n 1, 1) := by decide +kernel
theorem dX3_findOne_37 : decode cX3_findOne 37 = .ok (.getfield 36, 3) := by decide +kernel
theorem dX3_findOne_40 : decode cX3_findOne 40 = .ok (.if_icmp .ge 94, 3) := by decide +kernel
theorem dX3_findOne_43 : decode cX3_findOne 43 = .ok (.iconst 1, 1) := by decide +kernel
theorem dX3_findOne_44 : decode cX3_findOne 44 = .ok (.istore 6, 2) := by decide +kernel
theorem dX3_findOne_46 : decode cX3_findOne 46 = .ok (.iload 6, 2) := by decide +kernel
theorem dX3_findOne_48 : decode cX3_findOne 48 = .ok (.iconst 3, 1) := by decide +kernel
theorem dX3_findOne_49 : decode cX3_findOne 49 = .ok (.if_icmp .gt 79, 3) := by decide +kernel
theorem dX3_findOne_52 : decode cX3_findOne 52 = .ok (.aload_n 1, 1) := by decide +kernel
theorem dX3_findOne_53 : decode cX3_findOne 53 = .ok (.getfield 41, 3) := by decide +kernel
theorem dX3_findOne_56 : decode cX3_findOne 56 = .ok (.iload 5, 2) := by decide +kernel
theorem dX3_findOne_58 : decode cX3_findOne 58 = .ok (.invokestatic 44, 3) := by decide +kernel
theorem dX3_findOne_61 : decode cX3_findOne 61 = .ok (.ifCond .eq 67, 3) := by decide +kernel
theorem dX3_findOne_64 : decode cX3_findOne 64 = .ok (.aload_n 0, 1) := by decide +kernel
theorem dX3_findOne_65 : decode cX3_findOne 65 = .ok (.getfield 12, 3) := by decide +kernel
theorem dX3_findOne_68 : decode cX3_findOne 68 = .ok (.aload_n 1, 1) := by decide +kernel
theorem dX3_findOne_69 : decode cX3_findOne 69 = .ok (.invokevirtual 25, 3) := by decide +kernel
theorem dX3_findOne_72 : decode cX3_findOne 72 = .ok (.aload_n 0, 1) := by decide +kernel
theorem dX3_findOne_73 : decode cX3_findOne 73 = .ok (.getfield 12, 3) := by decide +kernel
theorem dX3_findOne_76 : decode cX3_findOne 76 = .ok (.getfield 48, 3) := by decide +kernel
theorem dX3_findOne_79 : decode cX3_findOne 79 = .ok (.iload 5, 2) := by decide +kernel
theorem dX3_findOne_81 : decode cX3_findOne 81 = .ok (.iload 6, 2) := by decide +kernel
theorem dX3_findOne_83 : decode cX3_findOne 83 = .ok (.iastore, 1) := by decide +kernel
theorem dX3_findOne_84 : decode cX3_findOne 84 = .ok (.aload_n 0, 1) := by decide +kernel
theorem dX3_findOne_85 : decode cX3_findOne 85 = .ok (.aload_n 1, 1) := by decide +kernel
theorem dX3_findOne_86 : decode cX3_findOne 86 = .ok (.aload_n 2, 1) := by decide +kernel
theorem dX3_findOne_87 : decode cX3_findOne 87 = .ok (.aload_n 3, 1) := by decide +kernel
theorem dX3_findOne_88 : decode cX3_findOne 88 = .ok (.aload 4, 2) := by decide +kernel
theorem dX3_findOne_90 : decode cX3_findOne 90 = .ok (.invokevirtual 29, 3) := by decide +kernel
theorem dX3_findOne_93 : decode cX3_findOne 93 = .ok (.istore 7, 2) := by decide +kernel
theorem dX3_findOne_95 : decode cX3_findOne 95 = .ok (.iload 7, 2) := by decide +kernel
theorem dX3_findOne_97 : decode cX3_findOne 97 = .ok (.aload_n 0, 1) := by decide +kernel
theorem dX3_findOne_98 : decode cX3_findOne 98 = .ok (.getfield 33, 3) := by decide +kernel
theorem dX3_findOne_101 : decode cX3_findOne 101 = .ok (.if_icmp .ge 21, 3) := by decide +kernel
theorem dX3_findOne_104 : decode cX3_findOne 104 = .ok (.aload_n 0, 1) := by decide +kernel
theorem dX3_findOne_105 : decode cX3_findOne 105 = .ok (.iload 7, 2) := by decide +kernel
theorem dX3_findOne_107 : decode cX3_findOne 107 = .ok (.putfield 33, 3) := by decide +kernel
theorem dX3_findOne_110 : decode cX3_findOne 110 = .ok (.aload_n 0, 1) := by decide +kernel
theorem dX3_findOne_111 : decode cX3_findOne 111 = .ok (.iload 5, 2) := by decide +kernel
theorem dX3_findOne_113 : decode cX3_findOne 113 = .ok (.putfield 18, 3) := by decide +kernel
theorem dX3_findOne_116 : decode cX3_findOne 116 = .ok (.aload_n 0, 1) := by decide +kernel
theorem dX3_findOne_117 : decode cX3_findOne 117 = .ok (.iload 6, 2) := by decide +kernel
theorem dX3_findOne_119 : decode cX3_findOne 119 = .ok (.putfield 22, 3) := by decide +kernel
theorem dX3_findOne_122 : decode cX3_findOne 122 = .ok (.iinc 6 1, 3) := by decide +kernel
theorem dX3_findOne_125 : decode cX3_findOne 125 = .ok (.goto (-79), 3) := by decide +kernel
theorem dX3_findOne_128 : decode cX3_findOne 128 = .ok (.iinc 5 1, 3) := by decide +kernel
theorem dX3_findOne_131 : decode cX3_findOne 131 = .ok (.goto (-97), 3) := by decide +kernel
theorem dX3_findOne_134 : decode cX3_findOne 134 = .ok (.return_, 1) := by decide +kernel
theorem dX11_who_0 : decode cX11_who 0 = .ok (.aload_n 0, 1) := by decide +kernel
theorem dX11_who_1 : decode cX11_who 1 = .ok (.iload_n 1, 1) := by decide +kernel
theorem dX11_who_2 : decode cX11_who 2 = .ok (.invokevirtual 106, 3) := by decide +kernel
theorem dX11_who_5 : decode cX11_who 5 = .ok (.astore 5, 2) := by decide +kernel
theorem dX11_who_7 : decode cX11_who 7 = .ok (.aload 5, 2) := by decide +kernel
theorem dX11_who_9 : decode cX11_who 9 = .ok (.ifnull 21, 3) := by decide +kernel
theorem dX11_who_12 : decode cX11_who 12 = .ok (.iload_n 2, 1) := by decide +kernel
theorem dX11_who_13 : decode cX11_who 13 = .ok (.iload_n 3, 1) := by decide +kernel
theorem dX11_who_14 : decode cX11_who 14 = .ok (.invokestatic 250, 3) := by decide +kernel
theorem dX11_who_17 : decode cX11_who 17 = .ok (.ifCond .eq 13, 3) := by decide +kernel
theorem dX11_who_20 : decode cX11_who 20 = .ok (.iload 4, 2) := by decide +kernel
theorem dX11_who_22 : decode cX11_who 22 = .ok (.iconst 0, 1) := by decide +kernel
theorem dX11_who_23 : decode cX11_who 23 = .ok (.iconst 2, 1) := by decide +kernel
theorem dX11_who_24 : decode cX11_who 24 = .ok (.invokestatic 113, 3) := by decide +kernel
theorem dX11_who_27 : decode cX11_who 27 = .ok (.ifCond .ne 6, 3) := by decide +kernel
theorem dX11_who_30 : decode cX11_who 30 = .ok (.bipush (-2), 2) := by decide +kernel
theorem dX11_who_32 : decode cX11_who 32 = .ok (.ireturn, 1) := by decide +kernel
theorem dX11_who_33 : decode cX11_who 33 = .ok (.aload_n 0, 1) := by decide +kernel
theorem dX11_who_34 : decode cX11_who 34 = .ok (.getfield 67, 3) := by decide +kernel
theorem dX11_who_37 : decode cX11_who 37 = .ok (.aload_n 0, 1) := by decide +kernel
theorem dX11_who_38 : decode cX11_who 38 = .ok (.getfield 26, 3) := by decide +kernel
theorem dX11_who_41 : decode cX11_who 41 = .ok (.aload 5, 2) := by decide +kernel
theorem dX11_who_43 : decode cX11_who 43 = .ok (.new 158, 3) := by decide +kernel
theorem dX11_who_46 : decode cX11_who 46 = .ok (.dup, 1) := by decide +kernel
theorem dX11_who_47 : decode cX11_who 47 = .ok (.ldc 199, 2) := by decide +kernel
theorem dX11_who_49 : decode cX11_who 49 = .ok (.iload_n 2, 1) := by decide +kernel
theorem dX11_who_50 : decode cX11_who 50 = .ok (.iload_n 3, 1) := by decide +kernel
theorem dX11_who_51 : decode cX11_who 51 = .ok (.invokespecial 160, 3) := by decide +kernel
theorem dX11_who_54 : decode cX11_who 54 = .ok (.aload_n 0, 1) := by decide +kernel
theorem dX11_who_55 : decode cX11_who 55 = .ok (.getfield 60, 3) := by decide +kernel
theorem dX11_who_58 : decode cX11_who 58 = .ok (.invokevirtual 253, 3) := by decide +kernel
theorem dX11_who_61 : decode cX11_who 61 = .ok (.iload 4, 2) := by decide +kernel
theorem dX11_who_63 : decode cX11_who 63 = .ok (.lookupswitch 41 #[(0, 25), (1, 33)], 25) := by decide +kernel
theorem dX11_who_88 : decode cX11_who 88 = .ok (.aload_n 0, 1) := by decide +kernel
theorem dX11_who_89 : decode cX11_who 89 = .ok (.getfield 67, 3) := by decide +kernel
theorem dX11_who_92 : decode cX11_who 92 = .ok (.getfield 257, 3) := by decide +kernel
theorem dX11_who_95 : decode cX11_who 95 = .ok (.ireturn, 1) := by decide +kernel
theorem dX11_who_96 : decode cX11_who 96 = .ok (.aload_n 0, 1) := by decide +kernel
theorem dX11_who_97 : decode cX11_who 97 = .ok (.getfield 67, 3) := by decide +kernel
theorem dX11_who_100 : decode cX11_who 100 = .ok (.getfield 260, 3) := by decide +kernel
theorem dX11_who_103 : decode cX11_who 103 = .ok (.ireturn, 1) := by decide +kernel
theorem dX11_who_104 : decode cX11_who 104 = .ok (.aload_n 0, 1) := by decide +kernel
theorem dX11_who_105 : decode cX11_who 105 = .ok (.getfield 67, 3) := by decide +kernel
theorem dX11_who_108 : decode cX11_who 108 = .ok (.getfield 263, 3) := by decide +kernel
theorem dX11_who_111 : decode cX11_who 111 = .ok (.ireturn, 1) := by decide +kernel
theorem dX11_wipe_0 : decode cX11_wipe 0 = .ok (.aload_n 0, 1) := by decide +kernel
theorem dX11_wipe_1 : decode cX11_wipe 1 = .ok (.getfield 60, 3) := by decide +kernel
theorem dX11_wipe_4 : decode cX11_wipe 4 = .ok (.getfield 249, 3) := by decide +kernel
theorem dX11_wipe_7 : decode cX11_wipe 7 = .ok (.istore_n 1, 1) := by decide +kernel
theorem dX11_wipe_8 : decode cX11_wipe 8 = .ok (.aload_n 0, 1) := by decide +kernel
theorem dX11_wipe_9 : decode cX11_wipe 9 = .ok (.getfield 60, 3) := by decide +kernel
theorem dX11_wipe_12 : decode cX11_wipe 12 = .ok (.iconst 0, 1) := by decide +kernel
theorem dX11_wipe_13 : decode cX11_wipe 13 = .ok (.putfield 249, 3) := by decide +kernel
theorem dX11_wipe_16 : decode cX11_wipe 16 = .ok (.iload_n 1, 1) := by decide +kernel
theorem dX11_wipe_17 : decode cX11_wipe 17 = .ok (.ireturn, 1) := by decide +kernel
theorem dX11_won_0 : decode cX11_won 0 = .ok (.aload_n 0, 1) := by decide +kernel
theorem dX11_won_1 : decode cX11_won 1 = .ok (.aload_n 0, 1) := by decide +kernel
theorem dX11_won_2 : decode cX11_won 2 = .ok (.getfield 33, 3) := by decide +kernel
theorem dX11_won_5 : decode cX11_won 5 = .ok (.getfield 175, 3) := by decide +kernel
theorem dX11_won_8 : decode cX11_won 8 = .ok (.iload_n 1, 1) := by decide +kernel
theorem dX11_won_9 : decode cX11_won 9 = .ok (.invokevirtual 178, 3) := by decide +kernel
theorem dX11_won_12 : decode cX11_won 12 = .ok (.ireturn, 1) := by decide +kernel
theorem dX11_word_0 : decode cX11_word 0 = .ok (.iload_n 1, 1) := by decide +kernel
theorem dX11_word_1 : decode cX11_word 1 = .ok (.iconst 1, 1) := by decide +kernel
theorem dX11_word_2 : decode cX11_word 2 = .ok (.iconst 5, 1) := by decide +kernel
theorem dX11_word_3 : decode cX11_word 3 = .ok (.invokestatic 113, 3) := by decide +kernel
theorem dX11_word_6 : decode cX11_word 6 = .ok (.ifCond .eq 16, 3) := by decide +kernel
theorem dX11_word_9 : decode cX11_word 9 = .ok (.iload_n 2, 1) := by decide +kernel
theorem dX11_word_10 : decode cX11_word 10 = .ok (.iconst 0, 1) := by decide +kernel
theorem dX11_word_11 : decode cX11_word 11 = .ok (.iconst 1, 1) := by decide +kernel
theorem dX11_word_12 : decode cX11_word 12 = .ok (.iload_n 1, 1) := by decide +kernel
theorem dX11_word_13 : decode cX11_word 13 = .ok (.ishl, 1) := by decide +kernel
theorem dX11_word_14 : decode cX11_word 14 = .ok (.iconst 1, 1) := by decide +kernel
theorem dX11_word_15 : decode cX11_word 15 = .ok (.isub, 1) := by decide +kernel
theorem dX11_word_16 : decode cX11_word 16 = .ok (.invokestatic 113, 3) := by decide +kernel
theorem dX11_word_19 : decode cX11_word 19 = .ok (.ifCond .ne 6, 3) := by decide +kernel
theorem dX11_word_22 : decode cX11_word 22 = .ok (.bipush (-2), 2) := by decide +kernel
theorem dX11_word_24 : decode cX11_word 24 = .ok (.ireturn, 1) := by decide +kernel
theorem dX11_word_25 : decode cX11_word 25 = .ok (.aload_n 0, 1) := by decide +kernel
theorem dX11_word_26 : decode cX11_word 26 = .ok (.getfield 47, 3) := by decide +kernel
theorem dX11_word_29 : decode cX11_word 29 = .ok (.invokevirtual 86, 3) := by decide +kernel
theorem dX11_word_32 : decode cX11_word 32 = .ok (.bipush 12, 2) := by decide +kernel
theorem dX11_word_34 : decode cX11_word 34 = .ok (.if_icmp .lt 6, 3) := by decide +kernel
theorem dX11_word_37 : decode cX11_word 37 = .ok (.bipush (-4), 2) := by decide +kernel
theorem dX11_word_39 : decode cX11_word 39 = .ok (.ireturn, 1) := by decide +kernel
theorem dX11_word_40 : decode cX11_word 40 = .ok (.aload_n 0, 1) := by decide +kernel
theorem dX11_word_41 : decode cX11_word 41 = .ok (.getfield 47, 3) := by decide +kernel
theorem dX11_word_44 : decode cX11_word 44 = .ok (.new 220, 3) := by decide +kernel
theorem dX11_word_47 : decode cX11_word 47 = .ok (.dup, 1) := by decide +kernel
theorem dX11_word_48 : decode cX11_word 48 = .ok (.iload_n 1, 1) := by decide +kernel
theorem dX11_word_49 : decode cX11_word 49 = .ok (.iload_n 2, 1) := by decide +kernel
theorem dX11_word_50 : decode cX11_word 50 = .ok (.invokespecial 222, 3) := by decide +kernel
theorem dX11_word_53 : decode cX11_word 53 = .ok (.invokevirtual 99, 3) := by decide +kernel
theorem dX11_word_56 : decode cX11_word 56 = .ok (.pop, 1) := by decide +kernel
theorem dX11_word_57 : decode cX11_word 57 = .ok (.aload_n 0, 1) := by decide +kernel
theorem dX11_word_58 : decode cX11_word 58 = .ok (.getfield 47, 3) := by decide +kernel
theorem dX11_word_61 : decode cX11_word 61 = .ok (.invokevirtual 86, 3) := by decide +kernel
theorem dX11_word_64 : decode cX11_word 64 = .ok (.iconst 1, 1) := by decide +kernel
theorem dX11_word_65 : decode cX11_word 65 = .ok (.isub, 1) := by decide +kernel
theorem dX11_word_66 : decode cX11_word 66 = .ok (.ireturn, 1) := by decide +kernel
theorem dX12_in_0 : decode cX12_in 0 = .ok (.lload_n 0, 1) := by decide +kernel
theorem dX12_in_1 : decode cX12_in 1 = .ok (.lload_n 2, 1) := by decide +kernel
theorem dX12_in_2 : decode cX12_in 2 = .ok (.lcmp, 1) := by decide +kernel
theorem dX12_in_3 : decode cX12_in 3 = .ok (.ifCond .lt 14, 3) := by decide +kernel
theorem dX12_in_6 : decode cX12_in 6 = .ok (.lload_n 0, 1) := by decide +kernel
theorem dX12_in_7 : decode cX12_in 7 = .ok (.lload 4, 2) := by decide +kernel
theorem dX12_in_9 : decode cX12_in 9 = .ok (.lcmp, 1) := by decide +kernel
theorem dX12_in_10 : decode cX12_in 10 = .ok (.ifCond .gt 7, 3) := by decide +kernel
theorem dX12_in_13 : decode cX12_in 13 = .ok (.iconst 1, 1) := by decide +kernel
theorem dX12_in_14 : decode cX12_in 14 = .ok (.goto 4, 3) := by decide +kernel
theorem dX12_in_17 : decode cX12_in 17 = .ok (.iconst 0, 1) := by decide +kernel
theorem dX12_in_18 : decode cX12_in 18 = .ok (.ireturn, 1) := by decide +kernel
theorem dX12_noSong_0 : decode cX12_noSong 0 = .ok (.iload_n 1, 1) := by decide +kernel
theorem dX12_noSong_1 : decode cX12_noSong 1 = .ok (.i2l, 1) := by decide +kernel
theorem dX12_noSong_2 : decode cX12_noSong 2 = .ok (.lconst 0, 1) := by decide +kernel
theorem dX12_noSong_3 : decode cX12_noSong 3 = .ok (.aload_n 0, 1) := by decide +kernel
theorem dX12_noSong_4 : decode cX12_noSong 4 = .ok (.getfield 108, 3) := by decide +kernel
theorem dX12_noSong_7 : decode cX12_noSong 7 = .ok (.iconst 1, 1) := by decide +kernel
theorem dX12_noSong_8 : decode cX12_noSong 8 = .ok (.isub, 1) := by decide +kernel
theorem dX12_noSong_9 : decode cX12_noSong 9 = .ok (.i2l, 1) := by decide +kernel
theorem dX12_noSong_10 : decode cX12_noSong 10 = .ok (.invokestatic 100, 3) := by decide +kernel
theorem dX12_noSong_13 : decode cX12_noSong 13 = .ok (.ifCond .ne 7, 3) := by decide +kernel
theorem dX12_noSong_16 : decode cX12_noSong 16 = .ok (.iconst 1, 1) := by decide +kernel
theorem dX12_noSong_17 : decode cX12_noSong 17 = .ok (.goto 4, 3) := by decide +kernel
theorem dX12_noSong_20 : decode cX12_noSong 20 = .ok (.iconst 0, 1) := by decide +kernel
theorem dX12_noSong_21 : decode cX12_noSong 21 = .ok (.ireturn, 1) := by decide +kernel
theorem dX12_bit_0 : decode cX12_bit 0 = .ok (.iload_n 0, 1) := by decide +kernel
theorem dX12_bit_1 : decode cX12_bit 1 = .ok (.ifCond .eq 7, 3) := by decide +kernel
theorem dX12_bit_4 : decode cX12_bit 4 = .ok (.iconst 1, 1) := by decide +kernel
theorem dX12_bit_5 : decode cX12_bit 5 = .ok (.goto 4, 3) := by decide +kernel
theorem dX12_bit_8 : decode cX12_bit 8 = .ok (.iconst 0, 1) := by decide +kernel
theorem dX12_bit_9 : decode cX12_bit 9 = .ok (.ireturn, 1) := by decide +kernel
theorem dX12_apartBy_0 : decode cX12_apartBy 0 = .ok (.iload_n 1, 1) := by decide +kernel
theorem dX12_apartBy_1 : decode cX12_apartBy 1 = .ok (.ifCond .eq 12, 3) := by decide +kernel
theorem dX12_apartBy_4 : decode cX12_apartBy 4 = .ok (.aload_n 0, 1) := by decide +kernel
theorem dX12_apartBy_5 : decode cX12_apartBy 5 = .ok (.getfield 7, 3) := by decide +kernel
theorem dX12_apartBy_8 : decode cX12_apartBy 8 = .ok (.iload_n 2, 1) := by decide +kernel
theorem dX12_apartBy_9 : decode cX12_apartBy 9 = .ok (.iaload, 1) := by decide +kernel
theorem dX12_apartBy_10 : decode cX12_apartBy 10 = .ok (.goto 9, 3) := by decide +kernel
theorem dX12_apartBy_13 : decode cX12_apartBy 13 = .ok (.aload_n 0, 1) := by decide +kernel
theorem dX12_apartBy_14 : decode cX12_apartBy 14 = .ok (.getfield 13, 3) := by decide +kernel
theorem dX12_apartBy_17 : decode cX12_apartBy 17 = .ok (.iload_n 2, 1) := by decide +kernel
theorem dX12_apartBy_18 : decode cX12_apartBy 18 = .ok (.iaload, 1) := by decide +kernel
theorem dX12_apartBy_19 : decode cX12_apartBy 19 = .ok (.istore 4, 2) := by decide +kernel
theorem dX12_apartBy_21 : decode cX12_apartBy 21 = .ok (.iload_n 1, 1) := by decide +kernel
theorem dX12_apartBy_22 : decode cX12_apartBy 22 = .ok (.ifCond .eq 12, 3) := by decide +kernel
theorem dX12_apartBy_25 : decode cX12_apartBy 25 = .ok (.aload_n 0, 1) := by decide +kernel
theorem dX12_apartBy_26 : decode cX12_apartBy 26 = .ok (.getfield 7, 3) := by decide +kernel
theorem dX12_apartBy_29 : decode cX12_apartBy 29 = .ok (.iload_n 3, 1) := by decide +kernel
theorem dX12_apartBy_30 : decode cX12_apartBy 30 = .ok (.iaload, 1) := by decide +kernel
theorem dX12_apartBy_31 : decode cX12_apartBy 31 = .ok (.goto 9, 3) := by decide +kernel
theorem dX12_apartBy_34 : decode cX12_apartBy 34 = .ok (.aload_n 0, 1) := by decide +kernel
theorem dX12_apartBy_35 : decode cX12_apartBy 35 = .ok (.getfield 13, 3) := by decide +kernel
theorem dX12_apartBy_38 : decode cX12_apartBy 38 = .ok (.iload_n 3, 1) := by decide +kernel
theorem dX12_apartBy_39 : decode cX12_apartBy 39 = .ok (.iaload, 1) := by decide +kernel
theorem dX12_apartBy_40 : decode cX12_apartBy 40 = .ok (.istore 5, 2) := by decide +kernel
theorem dX12_apartBy_42 : decode cX12_apartBy 42 = .ok (.iconst 0, 1) := by decide +kernel
theorem dX12_apartBy_43 : decode cX12_apartBy 43 = .ok (.istore 6, 2) := by decide +kernel
theorem dX12_apartBy_45 : decode cX12_apartBy 45 = .ok (.iload 6, 2) := by decide +kernel
theorem dX12_apartBy_47 : decode cX12_apartBy 47 = .ok (.iload 4, 2) := by decide +kernel
theorem dX12_apartBy_49 : decode cX12_apartBy 49 = .ok (.if_icmp .gt 236, 3) := by decide +kernel
theorem dX12_apartBy_52 : decode cX12_apartBy 52 = .ok (.iconst 0, 1) := by decide +kernel
theorem dX12_apartBy_53 : decode cX12_apartBy 53 = .ok (.istore 7, 2) := by decide +kernel
theorem dX12_apartBy_55 : decode cX12_apartBy 55 = .ok (.iload 7, 2) := by decide +kernel
theorem dX12_apartBy_57 : decode cX12_apartBy 57 = .ok (.iload 5, 2) := by decide +kernel
theorem dX12_apartBy_59 : decode cX12_apartBy 59 = .ok (.if_icmp .gt 220, 3) := by decide +kernel
theorem dX12_apartBy_62 : decode cX12_apartBy 62 = .ok (.iload 6, 2) := by decide +kernel
theorem dX12_apartBy_64 : decode cX12_apartBy 64 = .ok (.iload 7, 2) := by decide +kernel
theorem dX12_apartBy_66 : decode cX12_apartBy 66 = .ok (.iadd, 1) := by decide +kernel
theorem dX12_apartBy_67 : decode cX12_apartBy 67 = .ok (.istore 8, 2) := by decide +kernel
theorem dX12_apartBy_69 : decode cX12_apartBy 69 = .ok (.iload 6, 2) := by decide +kernel
theorem dX12_apartBy_71 : decode cX12_apartBy 71 = .ok (.ifCond .le 187, 3) := by decide +kernel
theorem dX12_apartBy_74 : decode cX12_apartBy 74 = .ok (.iload 7, 2) := by decide +kernel
theorem dX12_apartBy_76 : decode cX12_apartBy 76 = .ok (.ifCond .le 182, 3) := by decide +kernel
theorem dX12_apartBy_79 : decode cX12_apartBy 79 = .ok (.iload_n 1, 1) := by decide +kernel
theorem dX12_apartBy_80 : decode cX12_apartBy 80 = .ok (.ifCond .eq 20, 3) := by decide +kernel
theorem dX12_apartBy_83 : decode cX12_apartBy 83 = .ok (.aload_n 0, 1) := by decide +kernel
theorem dX12_apartBy_84 : decode cX12_apartBy 84 = .ok (.getfield 16, 3) := by decide +kernel
theorem dX12_apartBy_87 : decode cX12_apartBy 87 = .ok (.bipush 24, 2) := by decide +kernel
theorem dX12_apartBy_89 : decode cX12_apartBy 89 = .ok (.iload_n 2, 1) := by decide +kernel
theorem dX12_apartBy_90 : decode cX12_apartBy 90 = .ok (.imul, 1) := by decide +kernel
theorem dX12_apartBy_91 : decode cX12_apartBy 91 = .ok (.iload 6, 2) := by decide +kernel
theorem dX12_apartBy_93 : decode cX12_apartBy 93 = .ok (.iadd, 1) := by decide +kernel
theorem dX12_apartBy_94 : decode cX12_apartBy 94 = .ok (.iconst 1, 1) := by decide +kernel
theorem dX12_apartBy_95 : decode cX12_apartBy 95 = .ok (.isub, 1) := by decide +kernel
theorem dX12_apartBy_96 : decode cX12_apartBy 96 = .ok (.iaload, 1) := by decide +kernel
theorem dX12_apartBy_97 : decode cX12_apartBy 97 = .ok (.goto 17, 3) := by decide +kernel
theorem dX12_apartBy_100 : decode cX12_apartBy 100 = .ok (.aload_n 0, 1) := by decide +kernel
theorem dX12_apartBy_101 : decode cX12_apartBy 101 = .ok (.getfield 19, 3) := by decide +kernel
theorem dX12_apartBy_104 : decode cX12_apartBy 104 = .ok (.bipush 12, 2) := by decide +kernel
theorem dX12_apartBy_106 : decode cX12_apartBy 106 = .ok (.iload_n 2, 1) := by decide +kernel
theorem dX12_apartBy_107 : decode cX12_apartBy 107 = .ok (.imul, 1) := by decide +kernel
theorem dX12_apartBy_108 : decode cX12_apartBy 108 = .ok (.iload 6, 2) := by decide +kernel
theorem dX12_apartBy_110 : decode cX12_apartBy 110 = .ok (.iadd, 1) := by decide +kernel
theorem dX12_apartBy_111 : decode cX12_apartBy 111 = .ok (.iconst 1, 1) := by decide +kernel
theorem dX12_apartBy_112 : decode cX12_apartBy 112 = .ok (.isub, 1) := by decide +kernel
theorem dX12_apartBy_113 : decode cX12_apartBy 113 = .ok (.iaload, 1) := by decide +kernel
theorem dX12_apartBy_114 : decode cX12_apartBy 114 = .ok (.istore 9, 2) := by decide +kernel
theorem dX12_apartBy_116 : decode cX12_apartBy 116 = .ok (.iload_n 1, 1) := by decide +kernel
theorem dX12_apartBy_117 : decode cX12_apartBy 117 = .ok (.ifCond .eq 20, 3) := by decide +kernel
theorem dX12_apartBy_120 : decode cX12_apartBy 120 = .ok (.aload_n 0, 1) := by decide +kernel
theorem dX12_apartBy_121 : decode cX12_apartBy 121 = .ok (.getfield 16, 3) := by decide +kernel
theorem dX12_apartBy_124 : decode cX12_apartBy 124 = .ok (.bipush 24, 2) := by decide +kernel
theorem dX12_apartBy_126 : decode cX12_apartBy 126 = .ok (.iload_n 3, 1) := by decide +kernel
theorem dX12_apartBy_127 : decode cX12_apartBy 127 = .ok (.imul, 1) := by decide +kernel
theorem dX12_apartBy_128 : decode cX12_apartBy 128 = .ok (.iload 7, 2) := by decide +kernel
theorem dX12_apartBy_130 : decode cX12_apartBy 130 = .ok (.iadd, 1) := by decide +kernel
theorem dX12_apartBy_131 : decode cX12_apartBy 131 = .ok (.iconst 1, 1) := by decide +kernel
theorem dX12_apartBy_132 : decode cX12_apartBy 132 = .ok (.isub, 1) := by decide +kernel
theorem dX12_apartBy_133 : decode cX12_apartBy 133 = .ok (.iaload, 1) := by decide +kernel
theorem dX12_apartBy_134 : decode cX12_apartBy 134 = .ok (.goto 17, 3) := by decide +kernel
theorem dX12_apartBy_137 : decode cX12_apartBy 137 = .ok (.aload_n 0, 1) := by decide +kernel
theorem dX12_apartBy_138 : decode cX12_apartBy 138 = .ok (.getfield 19, 3) := by decide +kernel
theorem dX12_apartBy_141 : decode cX12_apartBy 141 = .ok (.bipush 12, 2) := by decide +kernel
theorem dX12_apartBy_143 : decode cX12_apartBy 143 = .ok (.iload_n 3, 1) := by decide +kernel
theorem dX12_apartBy_144 : decode cX12_apartBy 144 = .ok (.imul, 1) := by decide +kernel
theorem dX12_apartBy_145 : decode cX12_apartBy 145 = .ok (.iload 7, 2) := by decide +kernel
theorem dX12_apartBy_147 : decode cX12_apartBy 147 = .ok (.iadd, 1) := by decide +kernel
theorem dX12_apartBy_148 : decode cX12_apartBy 148 = .ok (.iconst 1, 1) := by decide +kernel
theorem dX12_apartBy_149 : decode cX12_apartBy 149 = .ok (.isub, 1) := by decide +kernel
theorem dX12_apartBy_150 : decode cX12_apartBy 150 = .ok (.iaload, 1) := by decide +kernel
theorem dX12_apartBy_151 : decode cX12_apartBy 151 = .ok (.istore 10, 2) := by decide +kernel
theorem dX12_apartBy_153 : decode cX12_apartBy 153 = .ok (.aload_n 0, 1) := by decide +kernel
theorem dX12_apartBy_154 : decode cX12_apartBy 154 = .ok (.getfield 92, 3) := by decide +kernel
theorem dX12_apartBy_157 : decode cX12_apartBy 157 = .ok (.bipush 25, 2) := by decide +kernel
theorem dX12_apartBy_159 : decode cX12_apartBy 159 = .ok (.iload 6, 2) := by decide +kernel
theorem dX12_apartBy_161 : decode cX12_apartBy 161 = .ok (.iconst 1, 1) := by decide +kernel
theorem dX12_apartBy_162 : decode cX12_apartBy 162 = .ok (.isub, 1) := by decide +kernel
theorem dX12_apartBy_163 : decode cX12_apartBy 163 = .ok (.imul, 1) := by decide +kernel
theorem dX12_apartBy_164 : decode cX12_apartBy 164 = .ok (.iload 7, 2) := by decide +kernel
theorem dX12_apartBy_166 : decode cX12_apartBy 166 = .ok (.iadd, 1) := by decide +kernel
theorem dX12_apartBy_167 : decode cX12_apartBy 167 = .ok (.iconst 1, 1) := by decide +kernel
theorem dX12_apartBy_168 : decode cX12_apartBy 168 = .ok (.isub, 1) := by decide +kernel
theorem dX12_apartBy_169 : decode cX12_apartBy 169 = .ok (.iaload, 1) := by decide +kernel
theorem dX12_apartBy_170 : decode cX12_apartBy 170 = .ok (.iload 9, 2) := by decide +kernel
theorem dX12_apartBy_172 : decode cX12_apartBy 172 = .ok (.iload 10, 2) := by decide +kernel
theorem dX12_apartBy_174 : decode cX12_apartBy 174 = .ok (.if_icmp .eq 7, 3) := by decide +kernel
theorem dX12_apartBy_177 : decode cX12_apartBy 177 = .ok (.iconst 1, 1) := by decide +kernel
theorem dX12_apartBy_178 : decode cX12_apartBy 178 = .ok (.goto 4, 3) := by decide +kernel
theorem dX12_apartBy_181 : decode cX12_apartBy 181 = .ok (.iconst 0, 1) := by decide +kernel
theorem dX12_apartBy_182 : decode cX12_apartBy 182 = .ok (.invokestatic 141, 3) := by decide +kernel
theorem dX12_apartBy_185 : decode cX12_apartBy 185 = .ok (.iadd, 1) := by decide +kernel
theorem dX12_apartBy_186 : decode cX12_apartBy 186 = .ok (.istore 11, 2) := by decide +kernel
theorem dX12_apartBy_188 : decode cX12_apartBy 188 = .ok (.aload_n 0, 1) := by decide +kernel
theorem dX12_apartBy_189 : decode cX12_apartBy 189 = .ok (.getfield 92, 3) := by decide +kernel
theorem dX12_apartBy_192 : decode cX12_apartBy 192 = .ok (.bipush 25, 2) := by decide +kernel
theorem dX12_apartBy_194 : decode cX12_apartBy 194 = .ok (.iload 6, 2) := by decide +kernel
theorem dX12_apartBy_196 : decode cX12_apartBy 196 = .ok (.iconst 1, 1) := by decide +kernel
theorem dX12_apartBy_197 : decode cX12_apartBy 197 = .ok (.isub, 1) := by decide +kernel
theorem dX12_apartBy_198 : decode cX12_apartBy 198 = .ok (.imul, 1) := by decide +kernel
theorem dX12_apartBy_199 : decode cX12_apartBy 199 = .ok (.iload 7, 2) := by decide +kernel
theorem dX12_apartBy_201 : decode cX12_apartBy 201 = .ok (.iadd, 1) := by decide +kernel
theorem dX12_apartBy_202 : decode cX12_apartBy 202 = .ok (.iaload, 1) := by decide +kernel
theorem dX12_apartBy_203 : decode cX12_apartBy 203 = .ok (.iconst 1, 1) := by decide +kernel
theorem dX12_apartBy_204 : decode cX12_apartBy 204 = .ok (.iadd, 1) := by decide +kernel
theorem dX12_apartBy_205 : decode cX12_apartBy 205 = .ok (.istore 12, 2) := by decide +kernel
theorem dX12_apartBy_207 : decode cX12_apartBy 207 = .ok (.aload_n 0, 1) := by decide +kernel
theorem dX12_apartBy_208 : decode cX12_apartBy 208 = .ok (.getfield 92, 3) := by decide +kernel
theorem dX12_apartBy_211 : decode cX12_apartBy 211 = .ok (.bipush 25, 2) := by decide +kernel
theorem dX12_apartBy_213 : decode cX12_apartBy 213 = .ok (.iload 6, 2) := by decide +kernel
theorem dX12_apartBy_215 : decode cX12_apartBy 215 = .ok (.imul, 1) := by decide +kernel
theorem dX12_apartBy_216 : decode cX12_apartBy 216 = .ok (.iload 7, 2) := by decide +kernel
theorem dX12_apartBy_218 : decode cX12_apartBy 218 = .ok (.iadd, 1) := by decide +kernel
theorem dX12_apartBy_219 : decode cX12_apartBy 219 = .ok (.iconst 1, 1) := by decide +kernel
theorem dX12_apartBy_220 : decode cX12_apartBy 220 = .ok (.isub, 1) := by decide +kernel
theorem dX12_apartBy_221 : decode cX12_apartBy 221 = .ok (.iaload, 1) := by decide +kernel
theorem dX12_apartBy_222 : decode cX12_apartBy 222 = .ok (.iconst 1, 1) := by decide +kernel
theorem dX12_apartBy_223 : decode cX12_apartBy 223 = .ok (.iadd, 1) := by decide +kernel
theorem dX12_apartBy_224 : decode cX12_apartBy 224 = .ok (.istore 13, 2) := by decide +kernel
theorem dX12_apartBy_226 : decode cX12_apartBy 226 = .ok (.iload 11, 2) := by decide +kernel
theorem dX12_apartBy_228 : decode cX12_apartBy 228 = .ok (.iload 12, 2) := by decide +kernel
theorem dX12_apartBy_230 : decode cX12_apartBy 230 = .ok (.if_icmp .ge 8, 3) := by decide +kernel
theorem dX12_apartBy_233 : decode cX12_apartBy 233 = .ok (.iload 11, 2) := by decide +kernel
theorem dX12_apartBy_235 : decode cX12_apartBy 235 = .ok (.goto 5, 3) := by decide +kernel
theorem dX12_apartBy_238 : decode cX12_apartBy 238 = .ok (.iload 12, 2) := by decide +kernel
theorem dX12_apartBy_240 : decode cX12_apartBy 240 = .ok (.istore 8, 2) := by decide +kernel
theorem dX12_apartBy_242 : decode cX12_apartBy 242 = .ok (.iload 13, 2) := by decide +kernel
theorem dX12_apartBy_244 : decode cX12_apartBy 244 = .ok (.iload 8, 2) := by decide +kernel
theorem dX12_apartBy_246 : decode cX12_apartBy 246 = .ok (.if_icmp .ge 8, 3) := by decide +kernel
theorem dX12_apartBy_249 : decode cX12_apartBy 249 = .ok (.iload 13, 2) := by decide +kernel
theorem dX12_apartBy_251 : decode cX12_apartBy 251 = .ok (.goto 5, 3) := by decide +kernel
theorem dX12_apartBy_254 : decode cX12_apartBy 254 = .ok (.iload 8, 2) := by decide +kernel
theorem dX12_apartBy_256 : decode cX12_apartBy 256 = .ok (.istore 8, 2) := by decide +kernel
theorem dX12_apartBy_258 : decode cX12_apartBy 258 = .ok (.aload_n 0, 1) := by decide +kernel
theorem dX12_apartBy_259 : decode cX12_apartBy 259 = .ok (.getfield 92, 3) := by decide +kernel
theorem dX12_apartBy_262 : decode cX12_apartBy 262 = .ok (.bipush 25, 2) := by decide +kernel
theorem dX12_apartBy_264 : decode cX12_apartBy 264 = .ok (.iload 6, 2) := by decide +kernel
theorem dX12_apartBy_266 : decode cX12_apartBy 266 = .ok (.imul, 1) := by decide +kernel
theorem dX12_apartBy_267 : decode cX12_apartBy 267 = .ok (.iload 7, 2) := by decide +kernel
theorem dX12_apartBy_269 : decode cX12_apartBy 269 = .ok (.iadd, 1) := by decide +kernel
theorem dX12_apartBy_270 : decode cX12_apartBy 270 = .ok (.iload 8, 2) := by decide +kernel
theorem dX12_apartBy_272 : decode cX12_apartBy 272 = .ok (.iastore, 1) := by decide +kernel
theorem dX12_apartBy_273 : decode cX12_apartBy 273 = .ok (.iinc 7 1, 3) := by decide +kernel
theorem dX12_apartBy_276 : decode cX12_apartBy 276 = .ok (.goto (-221), 3) := by decide +kernel
theorem dX12_apartBy_279 : decode cX12_apartBy 279 = .ok (.iinc 6 1, 3) := by decide +kernel
theorem dX12_apartBy_282 : decode cX12_apartBy 282 = .ok (.goto (-237), 3) := by decide +kernel
theorem dX12_apartBy_285 : decode cX12_apartBy 285 = .ok (.aload_n 0, 1) := by decide +kernel
theorem dX12_apartBy_286 : decode cX12_apartBy 286 = .ok (.getfield 92, 3) := by decide +kernel
theorem dX12_apartBy_289 : decode cX12_apartBy 289 = .ok (.bipush 25, 2) := by decide +kernel
theorem dX12_apartBy_291 : decode cX12_apartBy 291 = .ok (.iload 4, 2) := by decide +kernel
theorem dX12_apartBy_293 : decode cX12_apartBy 293 = .ok (.imul, 1) := by decide +kernel
theorem dX12_apartBy_294 : decode cX12_apartBy 294 = .ok (.iload 5, 2) := by decide +kernel
theorem dX12_apartBy_296 : decode cX12_apartBy 296 = .ok (.iadd, 1) := by decide +kernel
theorem dX12_apartBy_297 : decode cX12_apartBy 297 = .ok (.iaload, 1) := by decide +kernel
theorem dX12_apartBy_298 : decode cX12_apartBy 298 = .ok (.ireturn, 1) := by decide +kernel
theorem dX12_apartOf_0 : decode cX12_apartOf 0 = .ok (.aload_n 0, 1) := by decide +kernel
theorem dX12_apartOf_1 : decode cX12_apartOf 1 = .ok (.iconst 1, 1) := by decide +kernel
theorem dX12_apartOf_2 : decode cX12_apartOf 2 = .ok (.iload_n 1, 1) := by decide +kernel
theorem dX12_apartOf_3 : decode cX12_apartOf 3 = .ok (.iload_n 2, 1) := by decide +kernel
theorem dX12_apartOf_4 : decode cX12_apartOf 4 = .ok (.invokevirtual 255, 3) := by decide +kernel
theorem dX12_apartOf_7 : decode cX12_apartOf 7 = .ok (.aload_n 0, 1) := by decide +kernel
theorem dX12_apartOf_8 : decode cX12_apartOf 8 = .ok (.iconst 0, 1) := by decide +kernel
theorem dX12_apartOf_9 : decode cX12_apartOf 9 = .ok (.iload_n 1, 1) := by decide +kernel
theorem dX12_apartOf_10 : decode cX12_apartOf 10 = .ok (.iload_n 2, 1) := by decide +kernel
theorem dX12_apartOf_11 : decode cX12_apartOf 11 = .ok (.invokevirtual 255, 3) := by decide +kernel
theorem dX12_apartOf_14 : decode cX12_apartOf 14 = .ok (.iadd, 1) := by decide +kernel
theorem dX12_apartOf_15 : decode cX12_apartOf 15 = .ok (.ireturn, 1) := by decide +kernel
theorem dX12_apart_0 : decode cX12_apart 0 = .ok (.aload_n 0, 1) := by decide +kernel
theorem dX12_apart_1 : decode cX12_apart 1 = .ok (.iload_n 1, 1) := by decide +kernel
theorem dX12_apart_2 : decode cX12_apart 2 = .ok (.invokevirtual 111, 3) := by decide +kernel
theorem dX12_apart_5 : decode cX12_apart 5 = .ok (.ifCond .ne 11, 3) := by decide +kernel
theorem dX12_apart_8 : decode cX12_apart 8 = .ok (.aload_n 0, 1) := by decide +kernel
theorem dX12_apart_9 : decode cX12_apart 9 = .ok (.iload_n 2, 1) := by decide +kernel
theorem dX12_apart_10 : decode cX12_apart 10 = .ok (.invokevirtual 111, 3) := by decide +kernel
theorem dX12_apart_13 : decode cX12_apart 13 = .ok (.ifCond .eq 8, 3) := by decide +kernel
theorem dX12_apart_16 : decode cX12_apart 16 = .ok (.bipush (-2), 2) := by decide +kernel
theorem dX12_apart_18 : decode cX12_apart 18 = .ok (.goto 9, 3) := by decide +kernel
theorem dX12_apart_21 : decode cX12_apart 21 = .ok (.aload_n 0, 1) := by decide +kernel
theorem dX12_apart_22 : decode cX12_apart 22 = .ok (.iload_n 1, 1) := by decide +kernel
theorem dX12_apart_23 : decode cX12_apart 23 = .ok (.iload_n 2, 1) := by decide +kernel
theorem dX12_apart_24 : decode cX12_apart 24 = .ok (.invokevirtual 259, 3) := by decide +kernel
theorem dX12_apart_27 : decode cX12_apart 27 = .ok (.ireturn, 1) := by decide +kernel
theorem dX12_beat_0 : decode cX12_beat 0 = .ok (.iload_n 1, 1) := by decide +kernel
theorem dX12_beat_1 : decode cX12_beat 1 = .ok (.i2l, 1) := by decide +kernel
theorem dX12_beat_2 : decode cX12_beat 2 = .ok (.lconst 0, 1) := by decide +kernel
theorem dX12_beat_3 : decode cX12_beat 3 = .ok (.ldc2_w 98, 3) := by decide +kernel
theorem dX12_beat_6 : decode cX12_beat 6 = .ok (.invokestatic 100, 3) := by decide +kernel
theorem dX12_beat_9 : decode cX12_beat 9 = .ok (.ifCond .ne 6, 3) := by decide +kernel
theorem dX12_beat_12 : decode cX12_beat 12 = .ok (.bipush (-2), 2) := by decide +kernel
theorem dX12_beat_14 : decode cX12_beat 14 = .ok (.ireturn, 1) := by decide +kernel
theorem dX12_beat_15 : decode cX12_beat 15 = .ok (.aload_n 0, 1) := by decide +kernel
theorem dX12_beat_16 : decode cX12_beat 16 = .ok (.getfield 104, 3) := by decide +kernel
theorem dX12_beat_19 : decode cX12_beat 19 = .ok (.bipush 24, 2) := by decide +kernel
theorem dX12_beat_21 : decode cX12_beat 21 = .ok (.if_icmp .ne 6, 3) := by decide +kernel
theorem dX12_beat_24 : decode cX12_beat 24 = .ok (.bipush (-4), 2) := by decide +kernel
theorem dX12_beat_26 : decode cX12_beat 26 = .ok (.ireturn, 1) := by decide +kernel
theorem dX12_beat_27 : decode cX12_beat 27 = .ok (.aload_n 0, 1) := by decide +kernel
theorem dX12_beat_28 : decode cX12_beat 28 = .ok (.getfield 22, 3) := by decide +kernel
theorem dX12_beat_31 : decode cX12_beat 31 = .ok (.aload_n 0, 1) := by decide +kernel
theorem dX12_beat_32 : decode cX12_beat 32 = .ok (.getfield 104, 3) := by decide +kernel
theorem dX12_beat_35 : decode cX12_beat 35 = .ok (.iload_n 1, 1) := by decide +kernel
theorem dX12_beat_36 : decode cX12_beat 36 = .ok (.iastore, 1) := by decide +kernel
theorem dX12_beat_37 : decode cX12_beat 37 = .ok (.aload_n 0, 1) := by decide +kernel
theorem dX12_beat_38 : decode cX12_beat 38 = .ok (.dup, 1) := by decide +kernel
theorem dX12_beat_39 : decode cX12_beat 39 = .ok (.getfield 104, 3) := by decide +kernel
theorem dX12_beat_42 : decode cX12_beat 42 = .ok (.iconst 1, 1) := by decide +kernel
theorem dX12_beat_43 : decode cX12_beat 43 = .ok (.iadd, 1) := by decide +kernel
theorem dX12_beat_44 : decode cX12_beat 44 = .ok (.putfield 104, 3) := by decide +kernel
theorem dX12_beat_47 : decode cX12_beat 47 = .ok (.aload_n 0, 1) := by decide +kernel
theorem dX12_beat_48 : decode cX12_beat 48 = .ok (.getfield 104, 3) := by decide +kernel
theorem dX12_beat_51 : decode cX12_beat 51 = .ok (.ireturn, 1) := by decide +kernel
theorem dX12_beatOf_0 : decode cX12_beatOf 0 = .ok (.iload_n 2, 1) := by decide +kernel
theorem dX12_beatOf_1 : decode cX12_beatOf 1 = .ok (.aload_n 0, 1) := by decide +kernel
theorem dX12_beatOf_2 : decode cX12_beatOf 2 = .ok (.getfield 7, 3) := by decide +kernel
theorem dX12_beatOf_5 : decode cX12_beatOf 5 = .ok (.iload_n 1, 1) := by decide +kernel
theorem dX12_beatOf_6 : decode cX12_beatOf 6 = .ok (.iaload, 1) := by decide +kernel
theorem dX12_beatOf_7 : decode cX12_beatOf 7 = .ok (.aload_n 0, 1) := by decide +kernel
theorem dX12_beatOf_8 : decode cX12_beatOf 8 = .ok (.getfield 13, 3) := by decide +kernel
theorem dX12_beatOf_11 : decode cX12_beatOf 11 = .ok (.iload_n 1, 1) := by decide +kernel
theorem dX12_beatOf_12 : decode cX12_beatOf 12 = .ok (.iaload, 1) := by decide +kernel
theorem dX12_beatOf_13 : decode cX12_beatOf 13 = .ok (.iadd, 1) := by decide +kernel
theorem dX12_beatOf_14 : decode cX12_beatOf 14 = .ok (.irem, 1) := by decide +kernel
theorem dX12_beatOf_15 : decode cX12_beatOf 15 = .ok (.istore_n 3, 1) := by decide +kernel
theorem dX12_beatOf_16 : decode cX12_beatOf 16 = .ok (.iload_n 3, 1) := by decide +kernel
theorem dX12_beatOf_17 : decode cX12_beatOf 17 = .ok (.aload_n 0, 1) := by decide +kernel
theorem dX12_beatOf_18 : decode cX12_beatOf 18 = .ok (.getfield 7, 3) := by decide +kernel
theorem dX12_beatOf_21 : decode cX12_beatOf 21 = .ok (.iload_n 1, 1) := by decide +kernel
theorem dX12_beatOf_22 : decode cX12_beatOf 22 = .ok (.iaload, 1) := by decide +kernel
theorem dX12_beatOf_23 : decode cX12_beatOf 23 = .ok (.if_icmp .ge 17, 3) := by decide +kernel
theorem dX12_beatOf_26 : decode cX12_beatOf 26 = .ok (.aload_n 0, 1) := by decide +kernel
theorem dX12_beatOf_27 : decode cX12_beatOf 27 = .ok (.getfield 16, 3) := by decide +kernel
theorem dX12_beatOf_30 : decode cX12_beatOf 30 = .ok (.bipush 24, 2) := by decide +kernel
theorem dX12_beatOf_32 : decode cX12_beatOf 32 = .ok (.iload_n 1, 1) := by decide +kernel
theorem dX12_beatOf_33 : decode cX12_beatOf 33 = .ok (.imul, 1) := by decide +kernel
theorem dX12_beatOf_34 : decode cX12_beatOf 34 = .ok (.iload_n 3, 1) := by decide +kernel
theorem dX12_beatOf_35 : decode cX12_beatOf 35 = .ok (.iadd, 1) := by decide +kernel
theorem dX12_beatOf_36 : decode cX12_beatOf 36 = .ok (.iaload, 1) := by decide +kernel
theorem dX12_beatOf_37 : decode cX12_beatOf 37 = .ok (.goto 21, 3) := by decide +kernel
theorem dX12_beatOf_40 : decode cX12_beatOf 40 = .ok (.aload_n 0, 1) := by decide +kernel
theorem dX12_beatOf_41 : decode cX12_beatOf 41 = .ok (.getfield 19, 3) := by decide +kernel
theorem dX12_beatOf_44 : decode cX12_beatOf 44 = .ok (.bipush 12, 2) := by decide +kernel
theorem dX12_beatOf_46 : decode cX12_beatOf 46 = .ok (.iload_n 1, 1) := by decide +kernel
theorem dX12_beatOf_47 : decode cX12_beatOf 47 = .ok (.imul, 1) := by decide +kernel
theorem dX12_beatOf_48 : decode cX12_beatOf 48 = .ok (.iload_n 3, 1) := by decide +kernel
theorem dX12_beatOf_49 : decode cX12_beatOf 49 = .ok (.iadd, 1) := by decide +kernel
theorem dX12_beatOf_50 : decode cX12_beatOf 50 = .ok (.aload_n 0, 1) := by decide +kernel
theorem dX12_beatOf_51 : decode cX12_beatOf 51 = .ok (.getfield 7, 3) := by decide +kernel
theorem dX12_beatOf_54 : decode cX12_beatOf 54 = .ok (.iload_n 1, 1) := by decide +kernel
theorem dX12_beatOf_55 : decode cX12_beatOf 55 = .ok (.iaload, 1) := by decide +kernel
theorem dX12_beatOf_56 : decode cX12_beatOf 56 = .ok (.isub, 1) := by decide +kernel
theorem dX12_beatOf_57 : decode cX12_beatOf 57 = .ok (.iaload, 1) := by decide +kernel
theorem dX12_beatOf_58 : decode cX12_beatOf 58 = .ok (.ireturn, 1) := by decide +kernel
theorem dX12_beatAt_0 : decode cX12_beatAt 0 = .ok (.aload_n 0, 1) := by decide +kernel
theorem dX12_beatAt_1 : decode cX12_beatAt 1 = .ok (.iload_n 1, 1) := by decide +kernel
theorem dX12_beatAt_2 : decode cX12_beatAt 2 = .ok (.invokevirtual 111, 3) := by decide +kernel
theorem dX12_beatAt_5 : decode cX12_beatAt 5 = .ok (.ifCond .ne 15, 3) := by decide +kernel
theorem dX12_beatAt_8 : decode cX12_beatAt 8 = .ok (.iload_n 2, 1) := by decide +kernel
theorem dX12_beatAt_9 : decode cX12_beatAt 9 = .ok (.i2l, 1) := by decide +kernel
theorem dX12_beatAt_10 : decode cX12_beatAt 10 = .ok (.lconst 0, 1) := by decide +kernel
theorem dX12_beatAt_11 : decode cX12_beatAt 11 = .ok (.ldc2_w 115, 3) := by decide +kernel
theorem dX12_beatAt_14 : decode cX12_beatAt 14 = .ok (.invokestatic 100, 3) := by decide +kernel
theorem dX12_beatAt_17 : decode cX12_beatAt 17 = .ok (.ifCond .ne 8, 3) := by decide +kernel
theorem dX12_beatAt_20 : decode cX12_beatAt 20 = .ok (.bipush (-2), 2) := by decide +kernel
theorem dX12_beatAt_22 : decode cX12_beatAt 22 = .ok (.goto 9, 3) := by decide +kernel
theorem dX12_beatAt_25 : decode cX12_beatAt 25 = .ok (.aload_n 0, 1) := by decide +kernel
theorem dX12_beatAt_26 : decode cX12_beatAt 26 = .ok (.iload_n 1, 1) := by decide +kernel
theorem dX12_beatAt_27 : decode cX12_beatAt 27 = .ok (.iload_n 2, 1) := by decide +kernel
theorem dX12_beatAt_28 : decode cX12_beatAt 28 = .ok (.invokevirtual 117, 3) := by decide +kernel
theorem dX12_beatAt_31 : decode cX12_beatAt 31 = .ok (.ireturn, 1) := by decide +kernel
theorem dX12_ones_0 : decode cX12_ones 0 = .ok (.iconst 0, 1) := by decide +kernel
theorem dX12_ones_1 : decode cX12_ones 1 = .ok (.istore_n 1, 1) := by decide +kernel
theorem dX12_ones_2 : decode cX12_ones 2 = .ok (.iconst 0, 1) := by decide +kernel
theorem dX12_ones_3 : decode cX12_ones 3 = .ok (.istore_n 2, 1) := by decide +kernel
theorem dX12_ones_4 : decode cX12_ones 4 = .ok (.iload_n 2, 1) := by decide +kernel
theorem dX12_ones_5 : decode cX12_ones 5 = .ok (.bipush 12, 2) := by decide +kernel
theorem dX12_ones_7 : decode cX12_ones 7 = .ok (.if_icmp .ge 17, 3) := by decide +kernel
theorem dX12_ones_10 : decode cX12_ones 10 = .ok (.iload_n 1, 1) := by decide +kernel
theorem dX12_ones_11 : decode cX12_ones 11 = .ok (.iload_n 0, 1) := by decide +kernel
theorem dX12_ones_12 : decode cX12_ones 12 = .ok (.iload_n 2, 1) := by decide +kernel
theorem dX12_ones_13 : decode cX12_ones 13 = .ok (.ishr, 1) := by decide +kernel
theorem dX12_ones_14 : decode cX12_ones 14 = .ok (.iconst 1, 1) := by decide +kernel
theorem dX12_ones_15 : decode cX12_ones 15 = .ok (.iand, 1) := by decide +kernel
theorem dX12_ones_16 : decode cX12_ones 16 = .ok (.iadd, 1) := by decide +kernel
theorem dX12_ones_17 : decode cX12_ones 17 = .ok (.istore_n 1, 1) := by decide +kernel
theorem dX12_ones_18 : decode cX12_ones 18 = .ok (.iinc 2 1, 3) := by decide +kernel
theorem dX12_ones_21 : decode cX12_ones 21 = .ok (.goto (-17), 3) := by decide +kernel
theorem dX12_ones_24 : decode cX12_ones 24 = .ok (.iload_n 1, 1) := by decide +kernel
theorem dX12_ones_25 : decode cX12_ones 25 = .ok (.ireturn, 1) := by decide +kernel
theorem dX12_carry_0 : decode cX12_carry 0 = .ok (.iconst 0, 1) := by decide +kernel
theorem dX12_carry_1 : decode cX12_carry 1 = .ok (.istore_n 3, 1) := by decide +kernel
theorem dX12_carry_2 : decode cX12_carry 2 = .ok (.iload_n 3, 1) := by decide +kernel
theorem dX12_carry_3 : decode cX12_carry 3 = .ok (.aload_n 0, 1) := by decide +kernel
theorem dX12_carry_4 : decode cX12_carry 4 = .ok (.getfield 121, 3) := by decide +kernel
theorem dX12_carry_7 : decode cX12_carry 7 = .ok (.if_icmp .ge 31, 3) := by decide +kernel
theorem dX12_carry_10 : decode cX12_carry 10 = .ok (.aload_n 0, 1) := by decide +kernel
theorem dX12_carry_11 : decode cX12_carry 11 = .ok (.getfield 40, 3) := by decide +kernel
theorem dX12_carry_14 : decode cX12_carry 14 = .ok (.bipush 10, 2) := by decide +kernel
theorem dX12_carry_16 : decode cX12_carry 16 = .ok (.iload_n 2, 1) := by decide +kernel
theorem dX12_carry_17 : decode cX12_carry 17 = .ok (.imul, 1) := by decide +kernel
theorem dX12_carry_18 : decode cX12_carry 18 = .ok (.iload_n 3, 1) := by decide +kernel
theorem dX12_carry_19 : decode cX12_carry 19 = .ok (.iadd, 1) := by decide +kernel
theorem dX12_carry_20 : decode cX12_carry 20 = .ok (.aload_n 0, 1) := by decide +kernel
theorem dX12_carry_21 : decode cX12_carry 21 = .ok (.getfield 40, 3) := by decide +kernel
theorem dX12_carry_24 : decode cX12_carry 24 = .ok (.bipush 10, 2) := by decide +kernel
theorem dX12_carry_26 : decode cX12_carry 26 = .ok (.iload_n 1, 1) := by decide +kernel
theorem dX12_carry_27 : decode cX12_carry 27 = .ok (.imul, 1) := by decide +kernel
theorem dX12_carry_28 : decode cX12_carry 28 = .ok (.iload_n 3, 1) := by decide +kernel
theorem dX12_carry_29 : decode cX12_carry 29 = .ok (.iadd, 1) := by decide +kernel
theorem dX12_carry_30 : decode cX12_carry 30 = .ok (.iaload, 1) := by decide +kernel
theorem dX12_carry_31 : decode cX12_carry 31 = .ok (.iastore, 1) := by decide +kernel
theorem dX12_carry_32 : decode cX12_carry 32 = .ok (.iinc 3 1, 3) := by decide +kernel
theorem dX12_carry_35 : decode cX12_carry 35 = .ok (.goto (-33), 3) := by decide +kernel
theorem dX12_carry_38 : decode cX12_carry 38 = .ok (.return_, 1) := by decide +kernel
theorem dX12_step_0 : decode cX12_step 0 = .ok (.aload_n 0, 1) := by decide +kernel
theorem dX12_step_1 : decode cX12_step 1 = .ok (.iconst 0, 1) := by decide +kernel
theorem dX12_step_2 : decode cX12_step 2 = .ok (.putfield 145, 3) := by decide +kernel
theorem dX12_step_5 : decode cX12_step 5 = .ok (.iconst 0, 1) := by decide +kernel
theorem dX12_step_6 : decode cX12_step 6 = .ok (.istore 7, 2) := by decide +kernel
theorem dX12_step_8 : decode cX12_step 8 = .ok (.iconst 0, 1) := by decide +kernel
theorem dX12_step_9 : decode cX12_step 9 = .ok (.istore 8, 2) := by decide +kernel
theorem dX12_step_11 : decode cX12_step 11 = .ok (.iload 8, 2) := by decide +kernel
theorem dX12_step_13 : decode cX12_step 13 = .ok (.aload_n 0, 1) := by decide +kernel
theorem dX12_step_14 : decode cX12_step 14 = .ok (.getfield 121, 3) := by decide +kernel
theorem dX12_step_17 : decode cX12_step 17 = .ok (.if_icmp .ge 100, 3) := by decide +kernel
theorem dX12_step_20 : decode cX12_step 20 = .ok (.iload_n 3, 1) := by decide +kernel
theorem dX12_step_21 : decode cX12_step 21 = .ok (.iload 8, 2) := by decide +kernel
theorem dX12_step_23 : decode cX12_step 23 = .ok (.ishr, 1) := by decide +kernel
theorem dX12_step_24 : decode cX12_step 24 = .ok (.iconst 1, 1) := by decide +kernel
theorem dX12_step_25 : decode cX12_step 25 = .ok (.iand, 1) := by decide +kernel
theorem dX12_step_26 : decode cX12_step 26 = .ok (.iconst 1, 1) := by decide +kernel
theorem dX12_step_27 : decode cX12_step 27 = .ok (.if_icmp .ne 38, 3) := by decide +kernel
theorem dX12_step_30 : decode cX12_step 30 = .ok (.iload 6, 2) := by decide +kernel
theorem dX12_step_32 : decode cX12_step 32 = .ok (.aload_n 0, 1) := by decide +kernel
theorem dX12_step_33 : decode cX12_step 33 = .ok (.getfield 49, 3) := by decide +kernel
theorem dX12_step_36 : decode cX12_step 36 = .ok (.iload 8, 2) := by decide +kernel
theorem dX12_step_38 : decode cX12_step 38 = .ok (.iaload, 1) := by decide +kernel
theorem dX12_step_39 : decode cX12_step 39 = .ok (.if_icmp .lt 26, 3) := by decide +kernel
theorem dX12_step_42 : decode cX12_step 42 = .ok (.aload_n 0, 1) := by decide +kernel
theorem dX12_step_43 : decode cX12_step 43 = .ok (.iload_n 2, 1) := by decide +kernel
theorem dX12_step_44 : decode cX12_step 44 = .ok (.iload 6, 2) := by decide +kernel
theorem dX12_step_46 : decode cX12_step 46 = .ok (.aload_n 0, 1) := by decide +kernel
theorem dX12_step_47 : decode cX12_step 47 = .ok (.getfield 49, 3) := by decide +kernel
theorem dX12_step_50 : decode cX12_step 50 = .ok (.iload 8, 2) := by decide +kernel
theorem dX12_step_52 : decode cX12_step 52 = .ok (.iaload, 1) := by decide +kernel
theorem dX12_step_53 : decode cX12_step 53 = .ok (.isub, 1) := by decide +kernel
theorem dX12_step_54 : decode cX12_step 54 = .ok (.invokevirtual 117, 3) := by decide +kernel
theorem dX12_step_57 : decode cX12_step 57 = .ok (.iconst 2, 1) := by decide +kernel
theorem dX12_step_58 : decode cX12_step 58 = .ok (.if_icmp .ne 7, 3) := by decide +kernel
theorem dX12_step_61 : decode cX12_step 61 = .ok (.iconst 1, 1) := by decide +kernel
theorem dX12_step_62 : decode cX12_step 62 = .ok (.goto 4, 3) := by decide +kernel
theorem dX12_step_65 : decode cX12_step 65 = .ok (.iconst 0, 1) := by decide +kernel
theorem dX12_step_66 : decode cX12_step 66 = .ok (.istore 9, 2) := by decide +kernel
theorem dX12_step_68 : decode cX12_step 68 = .ok (.aload_n 0, 1) := by decide +kernel
theorem dX12_step_69 : decode cX12_step 69 = .ok (.dup, 1) := by decide +kernel
theorem dX12_step_70 : decode cX12_step 70 = .ok (.getfield 145, 3) := by decide +kernel
theorem dX12_step_73 : decode cX12_step 73 = .ok (.iload 9, 2) := by decide +kernel
theorem dX12_step_75 : decode cX12_step 75 = .ok (.ifCond .eq 18, 3) := by decide +kernel
theorem dX12_step_78 : decode cX12_step 78 = .ok (.aload_n 0, 1) := by decide +kernel
theorem dX12_step_79 : decode cX12_step 79 = .ok (.getfield 40, 3) := by decide +kernel
theorem dX12_step_82 : decode cX12_step 82 = .ok (.bipush 10, 2) := by decide +kernel
theorem dX12_step_84 : decode cX12_step 84 = .ok (.iload_n 1, 1) := by decide +kernel
theorem dX12_step_85 : decode cX12_step 85 = .ok (.imul, 1) := by decide +kernel
theorem dX12_step_86 : decode cX12_step 86 = .ok (.iload 8, 2) := by decide +kernel
theorem dX12_step_88 : decode cX12_step 88 = .ok (.iadd, 1) := by decide +kernel
theorem dX12_step_89 : decode cX12_step 89 = .ok (.iaload, 1) := by decide +kernel
theorem dX12_step_90 : decode cX12_step 90 = .ok (.goto 4, 3) := by decide +kernel
theorem dX12_step_93 : decode cX12_step 93 = .ok (.iconst 0, 1) := by decide +kernel
theorem dX12_step_94 : decode cX12_step 94 = .ok (.iadd, 1) := by decide +kernel
theorem dX12_step_95 : decode cX12_step 95 = .ok (.putfield 145, 3) := by decide +kernel
theorem dX12_step_98 : decode cX12_step 98 = .ok (.iload 7, 2) := by decide +kernel
theorem dX12_step_100 : decode cX12_step 100 = .ok (.iload 9, 2) := by decide +kernel
theorem dX12_step_102 : decode cX12_step 102 = .ok (.invokestatic 141, 3) := by decide +kernel
theorem dX12_step_105 : decode cX12_step 105 = .ok (.iload 8, 2) := by decide +kernel
theorem dX12_step_107 : decode cX12_step 107 = .ok (.ishl, 1) := by decide +kernel
theorem dX12_step_108 : decode cX12_step 108 = .ok (.ior, 1) := by decide +kernel
theorem dX12_step_109 : decode cX12_step 109 = .ok (.istore 7, 2) := by decide +kernel
theorem dX12_step_111 : decode cX12_step 111 = .ok (.iinc 8 1, 3) := by decide +kernel
theorem dX12_step_114 : decode cX12_step 114 = .ok (.goto (-103), 3) := by decide +kernel
theorem dX12_step_117 : decode cX12_step 117 = .ok (.aload_n 0, 1) := by decide +kernel
theorem dX12_step_118 : decode cX12_step 118 = .ok (.getfield 145, 3) := by decide +kernel
theorem dX12_step_121 : decode cX12_step 121 = .ok (.iload 4, 2) := by decide +kernel
theorem dX12_step_123 : decode cX12_step 123 = .ok (.if_icmp .le 25, 3) := by decide +kernel
theorem dX12_step_126 : decode cX12_step 126 = .ok (.aload_n 0, 1) := by decide +kernel
theorem dX12_step_127 : decode cX12_step 127 = .ok (.dup, 1) := by decide +kernel
theorem dX12_step_128 : decode cX12_step 128 = .ok (.getfield 148, 3) := by decide +kernel
theorem dX12_step_131 : decode cX12_step 131 = .ok (.aload_n 0, 1) := by decide +kernel
theorem dX12_step_132 : decode cX12_step 132 = .ok (.getfield 145, 3) := by decide +kernel
theorem dX12_step_135 : decode cX12_step 135 = .ok (.iload 4, 2) := by decide +kernel
theorem dX12_step_137 : decode cX12_step 137 = .ok (.isub, 1) := by decide +kernel
theorem dX12_step_138 : decode cX12_step 138 = .ok (.bipush 10, 2) := by decide +kernel
theorem dX12_step_140 : decode cX12_step 140 = .ok (.idiv, 1) := by decide +kernel
theorem dX12_step_141 : decode cX12_step 141 = .ok (.iadd, 1) := by decide +kernel
theorem dX12_step_142 : decode cX12_step 142 = .ok (.putfield 148, 3) := by decide +kernel
theorem dX12_step_145 : decode cX12_step 145 = .ok (.goto 27, 3) := by decide +kernel
theorem dX12_step_148 : decode cX12_step 148 = .ok (.aload_n 0, 1) := by decide +kernel
theorem dX12_step_149 : decode cX12_step 149 = .ok (.aload_n 0, 1) := by decide +kernel
theorem dX12_step_150 : decode cX12_step 150 = .ok (.getfield 148, 3) := by decide +kernel
theorem dX12_step_153 : decode cX12_step 153 = .ok (.iload 5, 2) := by decide +kernel
theorem dX12_step_155 : decode cX12_step 155 = .ok (.if_icmp .le 13, 3) := by decide +kernel
theorem dX12_step_158 : decode cX12_step 158 = .ok (.aload_n 0, 1) := by decide +kernel
theorem dX12_step_159 : decode cX12_step 159 = .ok (.getfield 148, 3) := by decide +kernel
theorem dX12_step_162 : decode cX12_step 162 = .ok (.iload 5, 2) := by decide +kernel
theorem dX12_step_164 : decode cX12_step 164 = .ok (.isub, 1) := by decide +kernel
theorem dX12_step_165 : decode cX12_step 165 = .ok (.goto 4, 3) := by decide +kernel
theorem dX12_step_168 : decode cX12_step 168 = .ok (.iconst 0, 1) := by decide +kernel
theorem dX12_step_169 : decode cX12_step 169 = .ok (.putfield 148, 3) := by decide +kernel
theorem dX12_step_172 : decode cX12_step 172 = .ok (.aload_n 0, 1) := by decide +kernel
theorem dX12_step_173 : decode cX12_step 173 = .ok (.iload_n 2, 1) := by decide +kernel
theorem dX12_step_174 : decode cX12_step 174 = .ok (.iload 6, 2) := by decide +kernel
theorem dX12_step_176 : decode cX12_step 176 = .ok (.invokevirtual 117, 3) := by decide +kernel
theorem dX12_step_179 : decode cX12_step 179 = .ok (.istore 8, 2) := by decide +kernel
theorem dX12_step_181 : decode cX12_step 181 = .ok (.iconst 0, 1) := by decide +kernel
theorem dX12_step_182 : decode cX12_step 182 = .ok (.istore 9, 2) := by decide +kernel
theorem dX12_step_184 : decode cX12_step 184 = .ok (.iload 9, 2) := by decide +kernel
theorem dX12_step_186 : decode cX12_step 186 = .ok (.aload_n 0, 1) := by decide +kernel
theorem dX12_step_187 : decode cX12_step 187 = .ok (.getfield 121, 3) := by decide +kernel
theorem dX12_step_190 : decode cX12_step 190 = .ok (.if_icmp .ge 148, 3) := by decide +kernel
theorem dX12_step_193 : decode cX12_step 193 = .ok (.aload_n 0, 1) := by decide +kernel
theorem dX12_step_194 : decode cX12_step 194 = .ok (.getfield 40, 3) := by decide +kernel
theorem dX12_step_197 : decode cX12_step 197 = .ok (.bipush 10, 2) := by decide +kernel
theorem dX12_step_199 : decode cX12_step 199 = .ok (.iload_n 1, 1) := by decide +kernel
theorem dX12_step_200 : decode cX12_step 200 = .ok (.imul, 1) := by decide +kernel
theorem dX12_step_201 : decode cX12_step 201 = .ok (.iload 9, 2) := by decide +kernel
theorem dX12_step_203 : decode cX12_step 203 = .ok (.iadd, 1) := by decide +kernel
theorem dX12_step_204 : decode cX12_step 204 = .ok (.iaload, 1) := by decide +kernel
theorem dX12_step_205 : decode cX12_step 205 = .ok (.istore 10, 2) := by decide +kernel
theorem dX12_step_207 : decode cX12_step 207 = .ok (.iload 7, 2) := by decide +kernel
theorem dX12_step_209 : decode cX12_step 209 = .ok (.iload 9, 2) := by decide +kernel
theorem dX12_step_211 : decode cX12_step 211 = .ok (.ishr, 1) := by decide +kernel
theorem dX12_step_212 : decode cX12_step 212 = .ok (.iconst 1, 1) := by decide +kernel
theorem dX12_step_213 : decode cX12_step 213 = .ok (.iand, 1) := by decide +kernel
theorem dX12_step_214 : decode cX12_step 214 = .ok (.iconst 1, 1) := by decide +kernel
theorem dX12_step_215 : decode cX12_step 215 = .ok (.if_icmp .ne 34, 3) := by decide +kernel
theorem dX12_step_218 : decode cX12_step 218 = .ok (.iload 10, 2) := by decide +kernel
theorem dX12_step_220 : decode cX12_step 220 = .ok (.aload_n 0, 1) := by decide +kernel
theorem dX12_step_221 : decode cX12_step 221 = .ok (.getfield 28, 3) := by decide +kernel
theorem dX12_step_224 : decode cX12_step 224 = .ok (.iload 9, 2) := by decide +kernel
theorem dX12_step_226 : decode cX12_step 226 = .ok (.iaload, 1) := by decide +kernel
theorem dX12_step_227 : decode cX12_step 227 = .ok (.if_icmp .le 16, 3) := by decide +kernel
theorem dX12_step_230 : decode cX12_step 230 = .ok (.iload 10, 2) := by decide +kernel
theorem dX12_step_232 : decode cX12_step 232 = .ok (.aload_n 0, 1) := by decide +kernel
theorem dX12_step_233 : decode cX12_step 233 = .ok (.getfield 28, 3) := by decide +kernel
theorem dX12_step_236 : decode cX12_step 236 = .ok (.iload 9, 2) := by decide +kernel
theorem dX12_step_238 : decode cX12_step 238 = .ok (.iaload, 1) := by decide +kernel
theorem dX12_step_239 : decode cX12_step 239 = .ok (.isub, 1) := by decide +kernel
theorem dX12_step_240 : decode cX12_step 240 = .ok (.goto 4, 3) := by decide +kernel
theorem dX12_step_243 : decode cX12_step 243 = .ok (.iconst 0, 1) := by decide +kernel
theorem dX12_step_244 : decode cX12_step 244 = .ok (.istore 10, 2) := by decide +kernel
theorem dX12_step_246 : decode cX12_step 246 = .ok (.goto 50, 3) := by decide +kernel
theorem dX12_step_249 : decode cX12_step 249 = .ok (.iload_n 3, 1) := by decide +kernel
theorem dX12_step_250 : decode cX12_step 250 = .ok (.iload 9, 2) := by decide +kernel
theorem dX12_step_252 : decode cX12_step 252 = .ok (.ishr, 1) := by decide +kernel
theorem dX12_step_253 : decode cX12_step 253 = .ok (.iconst 1, 1) := by decide +kernel
theorem dX12_step_254 : decode cX12_step 254 = .ok (.iand, 1) := by decide +kernel
theorem dX12_step_255 : decode cX12_step 255 = .ok (.ifCond .eq 8, 3) := by decide +kernel
theorem dX12_step_258 : decode cX12_step 258 = .ok (.iload 8, 2) := by decide +kernel
theorem dX12_step_260 : decode cX12_step 260 = .ok (.ifCond .ne 18, 3) := by decide +kernel
theorem dX12_step_263 : decode cX12_step 263 = .ok (.iload 10, 2) := by decide +kernel
theorem dX12_step_265 : decode cX12_step 265 = .ok (.aload_n 0, 1) := by decide +kernel
theorem dX12_step_266 : decode cX12_step 266 = .ok (.getfield 31, 3) := by decide +kernel
theorem dX12_step_269 : decode cX12_step 269 = .ok (.iload 9, 2) := by decide +kernel
theorem dX12_step_271 : decode cX12_step 271 = .ok (.iaload, 1) := by decide +kernel
theorem dX12_step_272 : decode cX12_step 272 = .ok (.iadd, 1) := by decide +kernel
theorem dX12_step_273 : decode cX12_step 273 = .ok (.istore 10, 2) := by decide +kernel
theorem dX12_step_275 : decode cX12_step 275 = .ok (.goto 21, 3) := by decide +kernel
theorem dX12_step_278 : decode cX12_step 278 = .ok (.iload 8, 2) := by decide +kernel
theorem dX12_step_280 : decode cX12_step 280 = .ok (.iconst 3, 1) := by decide +kernel
theorem dX12_step_281 : decode cX12_step 281 = .ok (.if_icmp .ne 15, 3) := by decide +kernel
theorem dX12_step_284 : decode cX12_step 284 = .ok (.iload 10, 2) := by decide +kernel
theorem dX12_step_286 : decode cX12_step 286 = .ok (.aload_n 0, 1) := by decide +kernel
theorem dX12_step_287 : decode cX12_step 287 = .ok (.getfield 34, 3) := by decide +kernel
theorem dX12_step_290 : decode cX12_step 290 = .ok (.iload 9, 2) := by decide +kernel
theorem dX12_step_292 : decode cX12_step 292 = .ok (.iaload, 1) := by decide +kernel
theorem dX12_step_293 : decode cX12_step 293 = .ok (.iadd, 1) := by decide +kernel
theorem dX12_step_294 : decode cX12_step 294 = .ok (.istore 10, 2) := by decide +kernel
theorem dX12_step_296 : decode cX12_step 296 = .ok (.aload_n 0, 1) := by decide +kernel
theorem dX12_step_297 : decode cX12_step 297 = .ok (.getfield 40, 3) := by decide +kernel
theorem dX12_step_300 : decode cX12_step 300 = .ok (.bipush 10, 2) := by decide +kernel
theorem dX12_step_302 : decode cX12_step 302 = .ok (.iload_n 1, 1) := by decide +kernel
theorem dX12_step_303 : decode cX12_step 303 = .ok (.imul, 1) := by decide +kernel
theorem dX12_step_304 : decode cX12_step 304 = .ok (.iload 9, 2) := by decide +kernel
theorem dX12_step_306 : decode cX12_step 306 = .ok (.iadd, 1) := by decide +kernel
theorem dX12_step_307 : decode cX12_step 307 = .ok (.iload 10, 2) := by decide +kernel
theorem dX12_step_309 : decode cX12_step 309 = .ok (.aload_n 0, 1) := by decide +kernel
theorem dX12_step_310 : decode cX12_step 310 = .ok (.getfield 25, 3) := by decide +kernel
theorem dX12_step_313 : decode cX12_step 313 = .ok (.iload 9, 2) := by decide +kernel
theorem dX12_step_315 : decode cX12_step 315 = .ok (.iaload, 1) := by decide +kernel
theorem dX12_step_316 : decode cX12_step 316 = .ok (.if_icmp .le 13, 3) := by decide +kernel
theorem dX12_step_319 : decode cX12_step 319 = .ok (.aload_n 0, 1) := by decide +kernel
theorem dX12_step_320 : decode cX12_step 320 = .ok (.getfield 25, 3) := by decide +kernel
theorem dX12_step_323 : decode cX12_step 323 = .ok (.iload 9, 2) := by decide +kernel
theorem dX12_step_325 : decode cX12_step 325 = .ok (.iaload, 1) := by decide +kernel
theorem dX12_step_326 : decode cX12_step 326 = .ok (.goto 5, 3) := by decide +kernel
theorem dX12_step_329 : decode cX12_step 329 = .ok (.iload 10, 2) := by decide +kernel
theorem dX12_step_331 : decode cX12_step 331 = .ok (.iastore, 1) := by decide +kernel
theorem dX12_step_332 : decode cX12_step 332 = .ok (.iinc 9 1, 3) := by decide +kernel
theorem dX12_step_335 : decode cX12_step 335 = .ok (.goto (-151), 3) := by decide +kernel
theorem dX12_step_338 : decode cX12_step 338 = .ok (.return_, 1) := by decide +kernel
theorem dX12_isAbove_0 : decode cX12_isAbove 0 = .ok (.iconst 1, 1) := by decide +kernel
theorem dX12_isAbove_1 : decode cX12_isAbove 1 = .ok (.istore_n 3, 1) := by decide +kernel
theorem dX12_isAbove_2 : decode cX12_isAbove 2 = .ok (.iconst 0, 1) := by decide +kernel
theorem dX12_isAbove_3 : decode cX12_isAbove 3 = .ok (.istore 4, 2) := by decide +kernel
theorem dX12_isAbove_5 : decode cX12_isAbove 5 = .ok (.iload 4, 2) := by decide +kernel
theorem dX12_isAbove_7 : decode cX12_isAbove 7 = .ok (.aload_n 0, 1) := by decide +kernel
theorem dX12_isAbove_8 : decode cX12_isAbove 8 = .ok (.getfield 121, 3) := by decide +kernel
theorem dX12_isAbove_11 : decode cX12_isAbove 11 = .ok (.if_icmp .ge 47, 3) := by decide +kernel
theorem dX12_isAbove_14 : decode cX12_isAbove 14 = .ok (.iload_n 3, 1) := by decide +kernel
theorem dX12_isAbove_15 : decode cX12_isAbove 15 = .ok (.ifCond .eq 35, 3) := by decide +kernel
theorem dX12_isAbove_18 : decode cX12_isAbove 18 = .ok (.iload_n 2, 1) := by decide +kernel
theorem dX12_isAbove_19 : decode cX12_isAbove 19 = .ok (.iload 4, 2) := by decide +kernel
theorem dX12_isAbove_21 : decode cX12_isAbove 21 = .ok (.ishr, 1) := by decide +kernel
theorem dX12_isAbove_22 : decode cX12_isAbove 22 = .ok (.iconst 1, 1) := by decide +kernel
theorem dX12_isAbove_23 : decode cX12_isAbove 23 = .ok (.iand, 1) := by decide +kernel
theorem dX12_isAbove_24 : decode cX12_isAbove 24 = .ok (.ifCond .eq 22, 3) := by decide +kernel
theorem dX12_isAbove_27 : decode cX12_isAbove 27 = .ok (.aload_n 0, 1) := by decide +kernel
theorem dX12_isAbove_28 : decode cX12_isAbove 28 = .ok (.getfield 40, 3) := by decide +kernel
theorem dX12_isAbove_31 : decode cX12_isAbove 31 = .ok (.bipush 10, 2) := by decide +kernel
theorem dX12_isAbove_33 : decode cX12_isAbove 33 = .ok (.iload_n 1, 1) := by decide +kernel
theorem dX12_isAbove_34 : decode cX12_isAbove 34 = .ok (.imul, 1) := by decide +kernel
theorem dX12_isAbove_35 : decode cX12_isAbove 35 = .ok (.iload 4, 2) := by decide +kernel
theorem dX12_isAbove_37 : decode cX12_isAbove 37 = .ok (.iadd, 1) := by decide +kernel
theorem dX12_isAbove_38 : decode cX12_isAbove 38 = .ok (.iaload, 1) := by decide +kernel
theorem dX12_isAbove_39 : decode cX12_isAbove 39 = .ok (.aload_n 0, 1) := by decide +kernel
theorem dX12_isAbove_40 : decode cX12_isAbove 40 = .ok (.getfield 134, 3) := by decide +kernel
theorem dX12_isAbove_43 : decode cX12_isAbove 43 = .ok (.if_icmp .lt 7, 3) := by decide +kernel
theorem dX12_isAbove_46 : decode cX12_isAbove 46 = .ok (.iconst 1, 1) := by decide +kernel
theorem dX12_isAbove_47 : decode cX12_isAbove 47 = .ok (.goto 4, 3) := by decide +kernel
theorem dX12_isAbove_50 : decode cX12_isAbove 50 = .ok (.iconst 0, 1) := by decide +kernel
theorem dX12_isAbove_51 : decode cX12_isAbove 51 = .ok (.istore_n 3, 1) := by decide +kernel
theorem dX12_isAbove_52 : decode cX12_isAbove 52 = .ok (.iinc 4 1, 3) := by decide +kernel
theorem dX12_isAbove_55 : decode cX12_isAbove 55 = .ok (.goto (-50), 3) := by decide +kernel
theorem dX12_isAbove_58 : decode cX12_isAbove 58 = .ok (.iload_n 3, 1) := by decide +kernel
theorem dX12_isAbove_59 : decode cX12_isAbove 59 = .ok (.ireturn, 1) := by decide +kernel
theorem dX12_work_0 : decode cX12_work 0 = .ok (.aload_n 0, 1) := by decide +kernel
theorem dX12_work_1 : decode cX12_work 1 = .ok (.iconst 0, 1) := by decide +kernel
theorem dX12_work_2 : decode cX12_work 2 = .ok (.putfield 148, 3) := by decide +kernel
theorem dX12_work_5 : decode cX12_work 5 = .ok (.iconst 0, 1) := by decide +kernel
theorem dX12_work_6 : decode cX12_work 6 = .ok (.istore 8, 2) := by decide +kernel
theorem dX12_work_8 : decode cX12_work 8 = .ok (.iload 8, 2) := by decide +kernel
theorem dX12_work_10 : decode cX12_work 10 = .ok (.aload_n 0, 1) := by decide +kernel
theorem dX12_work_11 : decode cX12_work 11 = .ok (.getfield 121, 3) := by decide +kernel
theorem dX12_work_14 : decode cX12_work 14 = .ok (.if_icmp .ge 23, 3) := by decide +kernel
theorem dX12_work_17 : decode cX12_work 17 = .ok (.aload_n 0, 1) := by decide +kernel
theorem dX12_work_18 : decode cX12_work 18 = .ok (.getfield 49, 3) := by decide +kernel
theorem dX12_work_21 : decode cX12_work 21 = .ok (.iload 8, 2) := by decide +kernel
theorem dX12_work_23 : decode cX12_work 23 = .ok (.aload_n 0, 1) := by decide +kernel
theorem dX12_work_24 : decode cX12_work 24 = .ok (.getfield 37, 3) := by decide +kernel
theorem dX12_work_27 : decode cX12_work 27 = .ok (.iload 8, 2) := by decide +kernel
theorem dX12_work_29 : decode cX12_work 29 = .ok (.iaload, 1) := by decide +kernel
theorem dX12_work_30 : decode cX12_work 30 = .ok (.iastore, 1) := by decide +kernel
theorem dX12_work_31 : decode cX12_work 31 = .ok (.iinc 8 1, 3) := by decide +kernel
theorem dX12_work_34 : decode cX12_work 34 = .ok (.goto (-26), 3) := by decide +kernel
theorem dX12_work_37 : decode cX12_work 37 = .ok (.iconst 0, 1) := by decide +kernel
theorem dX12_work_38 : decode cX12_work 38 = .ok (.istore 8, 2) := by decide +kernel
theorem dX12_work_40 : decode cX12_work 40 = .ok (.iload 8, 2) := by decide +kernel
theorem dX12_work_42 : decode cX12_work 42 = .ok (.sipush 300, 3) := by decide +kernel
theorem dX12_work_45 : decode cX12_work 45 = .ok (.if_icmp .ge 87, 3) := by decide +kernel
theorem dX12_work_48 : decode cX12_work 48 = .ok (.aload_n 0, 1) := by decide +kernel
theorem dX12_work_49 : decode cX12_work 49 = .ok (.iload_n 1, 1) := by decide +kernel
theorem dX12_work_50 : decode cX12_work 50 = .ok (.iload_n 2, 1) := by decide +kernel
theorem dX12_work_51 : decode cX12_work 51 = .ok (.iload_n 3, 1) := by decide +kernel
theorem dX12_work_52 : decode cX12_work 52 = .ok (.iload 5, 2) := by decide +kernel
theorem dX12_work_54 : decode cX12_work 54 = .ok (.iload 6, 2) := by decide +kernel
theorem dX12_work_56 : decode cX12_work 56 = .ok (.iload 8, 2) := by decide +kernel
theorem dX12_work_58 : decode cX12_work 58 = .ok (.invokevirtual 151, 3) := by decide +kernel
theorem dX12_work_61 : decode cX12_work 61 = .ok (.iload 7, 2) := by decide +kernel
theorem dX12_work_63 : decode cX12_work 63 = .ok (.ifCond .eq 33, 3) := by decide +kernel
theorem dX12_work_66 : decode cX12_work 66 = .ok (.aload_n 0, 1) := by decide +kernel
theorem dX12_work_67 : decode cX12_work 67 = .ok (.getfield 43, 3) := by decide +kernel
theorem dX12_work_70 : decode cX12_work 70 = .ok (.iload 8, 2) := by decide +kernel
theorem dX12_work_72 : decode cX12_work 72 = .ok (.aload_n 0, 1) := by decide +kernel
theorem dX12_work_73 : decode cX12_work 73 = .ok (.getfield 148, 3) := by decide +kernel
theorem dX12_work_76 : decode cX12_work 76 = .ok (.iastore, 1) := by decide +kernel
theorem dX12_work_77 : decode cX12_work 77 = .ok (.aload_n 0, 1) := by decide +kernel
theorem dX12_work_78 : decode cX12_work 78 = .ok (.getfield 46, 3) := by decide +kernel
theorem dX12_work_81 : decode cX12_work 81 = .ok (.iload 8, 2) := by decide +kernel
theorem dX12_work_83 : decode cX12_work 83 = .ok (.aload_n 0, 1) := by decide +kernel
theorem dX12_work_84 : decode cX12_work 84 = .ok (.getfield 145, 3) := by decide +kernel
theorem dX12_work_87 : decode cX12_work 87 = .ok (.iastore, 1) := by decide +kernel
theorem dX12_work_88 : decode cX12_work 88 = .ok (.aload_n 0, 1) := by decide +kernel
theorem dX12_work_89 : decode cX12_work 89 = .ok (.iload 8, 2) := by decide +kernel
theorem dX12_work_91 : decode cX12_work 91 = .ok (.iconst 1, 1) := by decide +kernel
theorem dX12_work_92 : decode cX12_work 92 = .ok (.iadd, 1) := by decide +kernel
theorem dX12_work_93 : decode cX12_work 93 = .ok (.putfield 155, 3) := by decide +kernel
theorem dX12_work_96 : decode cX12_work 96 = .ok (.aload_n 0, 1) := by decide +kernel
theorem dX12_work_97 : decode cX12_work 97 = .ok (.iload_n 1, 1) := by decide +kernel
theorem dX12_work_98 : decode cX12_work 98 = .ok (.iload_n 3, 1) := by decide +kernel
theorem dX12_work_99 : decode cX12_work 99 = .ok (.invokevirtual 158, 3) := by decide +kernel
theorem dX12_work_102 : decode cX12_work 102 = .ok (.ifCond .ne 10, 3) := by decide +kernel
theorem dX12_work_105 : decode cX12_work 105 = .ok (.iconst 0, 1) := by decide +kernel
theorem dX12_work_106 : decode cX12_work 106 = .ok (.iload 8, 2) := by decide +kernel
theorem dX12_work_108 : decode cX12_work 108 = .ok (.isub, 1) := by decide +kernel
theorem dX12_work_109 : decode cX12_work 109 = .ok (.iconst 1, 1) := by decide +kernel
theorem dX12_work_110 : decode cX12_work 110 = .ok (.isub, 1) := by decide +kernel
theorem dX12_work_111 : decode cX12_work 111 = .ok (.ireturn, 1) := by decide +kernel
theorem dX12_work_112 : decode cX12_work 112 = .ok (.aload_n 0, 1) := by decide +kernel
theorem dX12_work_113 : decode cX12_work 113 = .ok (.getfield 148, 3) := by decide +kernel
theorem dX12_work_116 : decode cX12_work 116 = .ok (.iload 4, 2) := by decide +kernel
theorem dX12_work_118 : decode cX12_work 118 = .ok (.if_icmp .lt 8, 3) := by decide +kernel
theorem dX12_work_121 : decode cX12_work 121 = .ok (.iload 8, 2) := by decide +kernel
theorem dX12_work_123 : decode cX12_work 123 = .ok (.iconst 1, 1) := by decide +kernel
theorem dX12_work_124 : decode cX12_work 124 = .ok (.iadd, 1) := by decide +kernel
theorem dX12_work_125 : decode cX12_work 125 = .ok (.ireturn, 1) := by decide +kernel
theorem dX12_work_126 : decode cX12_work 126 = .ok (.iinc 8 1, 3) := by decide +kernel
theorem dX12_work_129 : decode cX12_work 129 = .ok (.goto (-89), 3) := by decide +kernel
theorem dX12_work_132 : decode cX12_work 132 = .ok (.sipush (-300), 3) := by decide +kernel
theorem dX12_work_135 : decode cX12_work 135 = .ok (.ireturn, 1) := by decide +kernel
