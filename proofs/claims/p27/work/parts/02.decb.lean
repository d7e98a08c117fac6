theorem dX5_copyStick_57 : decode cX5_copyStick 57 = .ok (.getfield 51, 3) := by decide +kernel
theorem dX5_copyStick_60 : decode cX5_copyStick 60 = .ok (.iload_n 2, 1) := by decide +kernel
theorem dX5_copyStick_61 : decode cX5_copyStick 61 = .ok (.bipush 10, 2) := by decide +kernel
theorem dX5_copyStick_63 : decode cX5_copyStick 63 = .ok (.imul, 1) := by decide +kernel
theorem dX5_copyStick_64 : decode cX5_copyStick 64 = .ok (.iload_n 3, 1) := by decide +kernel
theorem dX5_copyStick_65 : decode cX5_copyStick 65 = .ok (.iadd, 1) := by decide +kernel
theorem dX5_copyStick_66 : decode cX5_copyStick 66 = .ok (.aload_n 0, 1) := by decide +kernel
theorem dX5_copyStick_67 : decode cX5_copyStick 67 = .ok (.iload_n 1, 1) := by decide +kernel
theorem dX5_copyStick_68 : decode cX5_copyStick 68 = .ok (.iload_n 3, 1) := by decide +kernel
theorem dX5_copyStick_69 : decode cX5_copyStick 69 = .ok (.invokevirtual 87, 3) := by decide +kernel
theorem dX5_copyStick_72 : decode cX5_copyStick 72 = .ok (.invokevirtual 63, 3) := by decide +kernel
theorem dX5_copyStick_75 : decode cX5_copyStick 75 = .ok (.iinc 3 1, 3) := by decide +kernel
theorem dX5_copyStick_78 : decode cX5_copyStick 78 = .ok (.goto (-28), 3) := by decide +kernel
theorem dX5_copyStick_81 : decode cX5_copyStick 81 = .ok (.return_, 1) := by decide +kernel
theorem dX5_stickNotch_0 : decode cX5_stickNotch 0 = .ok (.aload_n 0, 1) := by decide +kernel
theorem dX5_stickNotch_1 : decode cX5_stickNotch 1 = .ok (.getfield 51, 3) := by decide +kernel
theorem dX5_stickNotch_4 : decode cX5_stickNotch 4 = .ok (.iload_n 1, 1) := by decide +kernel
theorem dX5_stickNotch_5 : decode cX5_stickNotch 5 = .ok (.bipush 10, 2) := by decide +kernel
theorem dX5_stickNotch_7 : decode cX5_stickNotch 7 = .ok (.imul, 1) := by decide +kernel
theorem dX5_stickNotch_8 : decode cX5_stickNotch 8 = .ok (.iload_n 2, 1) := by decide +kernel
theorem dX5_stickNotch_9 : decode cX5_stickNotch 9 = .ok (.iadd, 1) := by decide +kernel
theorem dX5_stickNotch_10 : decode cX5_stickNotch 10 = .ok (.invokevirtual 83, 3) := by decide +kernel
theorem dX5_stickNotch_13 : decode cX5_stickNotch 13 = .ok (.ireturn, 1) := by decide +kernel
theorem dX5_notchesOfStick_0 : decode cX5_notchesOfStick 0 = .ok (.iconst 0, 1) := by decide +kernel
theorem dX5_notchesOfStick_1 : decode cX5_notchesOfStick 1 = .ok (.istore_n 2, 1) := by decide +kernel
theorem dX5_notchesOfStick_2 : decode cX5_notchesOfStick 2 = .ok (.iconst 0, 1) := by decide +kernel
theorem dX5_notchesOfStick_3 : decode cX5_notchesOfStick 3 = .ok (.istore_n 3, 1) := by decide +kernel
theorem dX5_notchesOfStick_4 : decode cX5_notchesOfStick 4 = .ok (.iload_n 3, 1) := by decide +kernel
theorem dX5_notchesOfStick_5 : decode cX5_notchesOfStick 5 = .ok (.bipush 10, 2) := by decide +kernel
theorem dX5_notchesOfStick_7 : decode cX5_notchesOfStick 7 = .ok (.if_icmp .ge 22, 3) := by decide +kernel
theorem dX5_notchesOfStick_10 : decode cX5_notchesOfStick 10 = .ok (.aload_n 0, 1) := by decide +kernel
theorem dX5_notchesOfStick_11 : decode cX5_notchesOfStick 11 = .ok (.iload_n 1, 1) := by decide +kernel
theorem dX5_notchesOfStick_12 : decode cX5_notchesOfStick 12 = .ok (.iload_n 3, 1) := by decide +kernel
theorem dX5_notchesOfStick_13 : decode cX5_notchesOfStick 13 = .ok (.invokevirtual 87, 3) := by decide +kernel
theorem dX5_notchesOfStick_16 : decode cX5_notchesOfStick 16 = .ok (.iconst (-1), 1) := by decide +kernel
theorem dX5_notchesOfStick_17 : decode cX5_notchesOfStick 17 = .ok (.if_icmp .eq 6, 3) := by decide +kernel
theorem dX5_notchesOfStick_20 : decode cX5_notchesOfStick 20 = .ok (.iinc 2 1, 3) := by decide +kernel
theorem dX5_notchesOfStick_23 : decode cX5_notchesOfStick 23 = .ok (.iinc 3 1, 3) := by decide +kernel
theorem dX5_notchesOfStick_26 : decode cX5_notchesOfStick 26 = .ok (.goto (-22), 3) := by decide +kernel
theorem dX5_notchesOfStick_29 : decode cX5_notchesOfStick 29 = .ok (.iload_n 2, 1) := by decide +kernel
theorem dX5_notchesOfStick_30 : decode cX5_notchesOfStick 30 = .ok (.ireturn, 1) := by decide +kernel
theorem dX6_init_0 : decode cX6_init 0 = .ok (.aload_n 0, 1) := by decide +kernel
theorem dX6_init_1 : decode cX6_init 1 = .ok (.invokespecial 3, 3) := by decide +kernel
theorem dX6_init_4 : decode cX6_init 4 = .ok (.aload_n 0, 1) := by decide +kernel
theorem dX6_init_5 : decode cX6_init 5 = .ok (.new 9, 3) := by decide +kernel
theorem dX6_init_8 : decode cX6_init 8 = .ok (.dup, 1) := by decide +kernel
theorem dX6_init_9 : decode cX6_init 9 = .ok (.invokespecial 11, 3) := by decide +kernel
theorem dX6_init_12 : decode cX6_init 12 = .ok (.putfield 12, 3) := by decide +kernel
theorem dX6_init_15 : decode cX6_init 15 = .ok (.aload_n 0, 1) := by decide +kernel
theorem dX6_init_16 : decode cX6_init 16 = .ok (.new 16, 3) := by decide +kernel
theorem dX6_init_19 : decode cX6_init 19 = .ok (.dup, 1) := by decide +kernel
theorem dX6_init_20 : decode cX6_init 20 = .ok (.invokespecial 18, 3) := by decide +kernel
theorem dX6_init_23 : decode cX6_init 23 = .ok (.putfield 19, 3) := by decide +kernel
theorem dX6_init_26 : decode cX6_init 26 = .ok (.aload_n 0, 1) := by decide +kernel
theorem dX6_init_27 : decode cX6_init 27 = .ok (.new 23, 3) := by decide +kernel
theorem dX6_init_30 : decode cX6_init 30 = .ok (.dup, 1) := by decide +kernel
theorem dX6_init_31 : decode cX6_init 31 = .ok (.bipush 60, 2) := by decide +kernel
theorem dX6_init_33 : decode cX6_init 33 = .ok (.invokespecial 25, 3) := by decide +kernel
theorem dX6_init_36 : decode cX6_init 36 = .ok (.putfield 28, 3) := by decide +kernel
theorem dX6_init_39 : decode cX6_init 39 = .ok (.aload_n 0, 1) := by decide +kernel
theorem dX6_init_40 : decode cX6_init 40 = .ok (.new 32, 3) := by decide +kernel
theorem dX6_init_43 : decode cX6_init 43 = .ok (.dup, 1) := by decide +kernel
theorem dX6_init_44 : decode cX6_init 44 = .ok (.invokespecial 34, 3) := by decide +kernel
theorem dX6_init_47 : decode cX6_init 47 = .ok (.putfield 35, 3) := by decide +kernel
theorem dX6_init_50 : decode cX6_init 50 = .ok (.aload_n 0, 1) := by decide +kernel
theorem dX6_init_51 : decode cX6_init 51 = .ok (.new 39, 3) := by decide +kernel
theorem dX6_init_54 : decode cX6_init 54 = .ok (.dup, 1) := by decide +kernel
theorem dX6_init_55 : decode cX6_init 55 = .ok (.invokespecial 41, 3) := by decide +kernel
theorem dX6_init_58 : decode cX6_init 58 = .ok (.putfield 42, 3) := by decide +kernel
theorem dX6_init_61 : decode cX6_init 61 = .ok (.aload_n 0, 1) := by decide +kernel
theorem dX6_init_62 : decode cX6_init 62 = .ok (.new 46, 3) := by decide +kernel
theorem dX6_init_65 : decode cX6_init 65 = .ok (.dup, 1) := by decide +kernel
theorem dX6_init_66 : decode cX6_init 66 = .ok (.invokespecial 48, 3) := by decide +kernel
theorem dX6_init_69 : decode cX6_init 69 = .ok (.putfield 49, 3) := by decide +kernel
theorem dX6_init_72 : decode cX6_init 72 = .ok (.aload_n 0, 1) := by decide +kernel
theorem dX6_init_73 : decode cX6_init 73 = .ok (.new 46, 3) := by decide +kernel
theorem dX6_init_76 : decode cX6_init 76 = .ok (.dup, 1) := by decide +kernel
theorem dX6_init_77 : decode cX6_init 77 = .ok (.invokespecial 48, 3) := by decide +kernel
theorem dX6_init_80 : decode cX6_init 80 = .ok (.putfield 53, 3) := by decide +kernel
theorem dX6_init_83 : decode cX6_init 83 = .ok (.aload_n 0, 1) := by decide +kernel
theorem dX6_init_84 : decode cX6_init 84 = .ok (.getstatic 56, 3) := by decide +kernel
theorem dX6_init_87 : decode cX6_init 87 = .ok (.arraylength, 1) := by decide +kernel
theorem dX6_init_88 : decode cX6_init 88 = .ok (.anewarray 46, 3) := by decide +kernel
theorem dX6_init_91 : decode cX6_init 91 = .ok (.putfield 60, 3) := by decide +kernel
theorem dX6_init_94 : decode cX6_init 94 = .ok (.aload_n 0, 1) := by decide +kernel
theorem dX6_init_95 : decode cX6_init 95 = .ok (.iconst 0, 1) := by decide +kernel
theorem dX6_init_96 : decode cX6_init 96 = .ok (.putfield 64, 3) := by decide +kernel
theorem dX6_init_99 : decode cX6_init 99 = .ok (.iconst 0, 1) := by decide +kernel
theorem dX6_init_100 : decode cX6_init 100 = .ok (.istore_n 1, 1) := by decide +kernel
theorem dX6_init_101 : decode cX6_init 101 = .ok (.iload_n 1, 1) := by decide +kernel
theorem dX6_init_102 : decode cX6_init 102 = .ok (.aload_n 0, 1) := by decide +kernel
theorem dX6_init_103 : decode cX6_init 103 = .ok (.getfield 60, 3) := by decide +kernel
theorem dX6_init_106 : decode cX6_init 106 = .ok (.arraylength, 1) := by decide +kernel
theorem dX6_init_107 : decode cX6_init 107 = .ok (.if_icmp .ge 22, 3) := by decide +kernel
theorem dX6_init_110 : decode cX6_init 110 = .ok (.aload_n 0, 1) := by decide +kernel
theorem dX6_init_111 : decode cX6_init 111 = .ok (.getfield 60, 3) := by decide +kernel
theorem dX6_init_114 : decode cX6_init 114 = .ok (.iload_n 1, 1) := by decide +kernel
theorem dX6_init_115 : decode cX6_init 115 = .ok (.new 46, 3) := by decide +kernel
theorem dX6_init_118 : decode cX6_init 118 = .ok (.dup, 1) := by decide +kernel
theorem dX6_init_119 : decode cX6_init 119 = .ok (.invokespecial 48, 3) := by decide +kernel
theorem dX6_init_122 : decode cX6_init 122 = .ok (.aastore, 1) := by decide +kernel
theorem dX6_init_123 : decode cX6_init 123 = .ok (.iinc 1 1, 3) := by decide +kernel
theorem dX6_init_126 : decode cX6_init 126 = .ok (.goto (-25), 3) := by decide +kernel
theorem dX6_init_129 : decode cX6_init 129 = .ok (.return_, 1) := by decide +kernel
theorem dX6_proclaim_0 : decode cX6_proclaim 0 = .ok (.aload_n 0, 1) := by decide +kernel
theorem dX6_proclaim_1 : decode cX6_proclaim 1 = .ok (.invokevirtual 68, 3) := by decide +kernel
theorem dX6_proclaim_4 : decode cX6_proclaim 4 = .ok (.ifCond .ne 13, 3) := by decide +kernel
theorem dX6_proclaim_7 : decode cX6_proclaim 7 = .ok (.new 72, 3) := by decide +kernel
theorem dX6_proclaim_10 : decode cX6_proclaim 10 = .ok (.dup, 1) := by decide +kernel
theorem dX6_proclaim_11 : decode cX6_proclaim 11 = .ok (.ldc 74, 2) := by decide +kernel
theorem dX6_proclaim_13 : decode cX6_proclaim 13 = .ok (.invokespecial 76, 3) := by decide +kernel
theorem dX6_proclaim_16 : decode cX6_proclaim 16 = .ok (.athrow, 1) := by decide +kernel
theorem dX6_proclaim_17 : decode cX6_proclaim 17 = .ok (.aload_n 0, 1) := by decide +kernel
theorem dX6_proclaim_18 : decode cX6_proclaim 18 = .ok (.getfield 19, 3) := by decide +kernel
theorem dX6_proclaim_21 : decode cX6_proclaim 21 = .ok (.aload_n 0, 1) := by decide +kernel
theorem dX6_proclaim_22 : decode cX6_proclaim 22 = .ok (.getfield 12, 3) := by decide +kernel
theorem dX6_proclaim_25 : decode cX6_proclaim 25 = .ok (.invokevirtual 79, 3) := by decide +kernel
theorem dX6_proclaim_28 : decode cX6_proclaim 28 = .ok (.aload_n 0, 1) := by decide +kernel
theorem dX6_proclaim_29 : decode cX6_proclaim 29 = .ok (.invokevirtual 83, 3) := by decide +kernel
theorem dX6_proclaim_32 : decode cX6_proclaim 32 = .ok (.istore_n 1, 1) := by decide +kernel
theorem dX6_proclaim_33 : decode cX6_proclaim 33 = .ok (.aload_n 0, 1) := by decide +kernel
theorem dX6_proclaim_34 : decode cX6_proclaim 34 = .ok (.iconst 0, 1) := by decide +kernel
theorem dX6_proclaim_35 : decode cX6_proclaim 35 = .ok (.putfield 64, 3) := by decide +kernel
theorem dX6_proclaim_38 : decode cX6_proclaim 38 = .ok (.iload_n 1, 1) := by decide +kernel
theorem dX6_proclaim_39 : decode cX6_proclaim 39 = .ok (.ireturn, 1) := by decide +kernel
theorem dX6_forget_0 : decode cX6_forget 0 = .ok (.aload_n 0, 1) := by decide +kernel
theorem dX6_forget_1 : decode cX6_forget 1 = .ok (.getfield 12, 3) := by decide +kernel
theorem dX6_forget_4 : decode cX6_forget 4 = .ok (.getfield 87, 3) := by decide +kernel
theorem dX6_forget_7 : decode cX6_forget 7 = .ok (.ifCond .gt 13, 3) := by decide +kernel
theorem dX6_forget_10 : decode cX6_forget 10 = .ok (.new 90, 3) := by decide +kernel
theorem dX6_forget_13 : decode cX6_forget 13 = .ok (.dup, 1) := by decide +kernel
theorem dX6_forget_14 : decode cX6_forget 14 = .ok (.ldc 92, 2) := by decide +kernel
theorem dX6_forget_16 : decode cX6_forget 16 = .ok (.invokespecial 94, 3) := by decide +kernel
theorem dX6_forget_19 : decode cX6_forget 19 = .ok (.athrow, 1) := by decide +kernel
theorem dX6_forget_20 : decode cX6_forget 20 = .ok (.aload_n 0, 1) := by decide +kernel
theorem dX6_forget_21 : decode cX6_forget 21 = .ok (.getfield 19, 3) := by decide +kernel
theorem dX6_forget_24 : decode cX6_forget 24 = .ok (.aload_n 0, 1) := by decide +kernel
theorem dX6_forget_25 : decode cX6_forget 25 = .ok (.getfield 12, 3) := by decide +kernel
theorem dX6_forget_28 : decode cX6_forget 28 = .ok (.invokevirtual 79, 3) := by decide +kernel
theorem dX6_forget_31 : decode cX6_forget 31 = .ok (.aload_n 0, 1) := by decide +kernel
theorem dX6_forget_32 : decode cX6_forget 32 = .ok (.getfield 12, 3) := by decide +kernel
theorem dX6_forget_35 : decode cX6_forget 35 = .ok (.dup, 1) := by decide +kernel
theorem dX6_forget_36 : decode cX6_forget 36 = .ok (.getfield 87, 3) := by decide +kernel
theorem dX6_forget_39 : decode cX6_forget 39 = .ok (.iconst 1, 1) := by decide +kernel
theorem dX6_forget_40 : decode cX6_forget 40 = .ok (.isub, 1) := by decide +kernel
theorem dX6_forget_41 : decode cX6_forget 41 = .ok (.putfield 87, 3) := by decide +kernel
theorem dX6_forget_44 : decode cX6_forget 44 = .ok (.aload_n 0, 1) := by decide +kernel
theorem dX6_forget_45 : decode cX6_forget 45 = .ok (.getfield 12, 3) := by decide +kernel
theorem dX6_forget_48 : decode cX6_forget 48 = .ok (.getfield 87, 3) := by decide +kernel
theorem dX6_forget_51 : decode cX6_forget 51 = .ok (.ireturn, 1) := by decide +kernel
theorem dX6_rank_0 : decode cX6_rank 0 = .ok (.aload_n 0, 1) := by decide +kernel
theorem dX6_rank_1 : decode cX6_rank 1 = .ok (.iload_n 1, 1) := by decide +kernel
theorem dX6_rank_2 : decode cX6_rank 2 = .ok (.invokevirtual 95, 3) := by decide +kernel
theorem dX6_rank_5 : decode cX6_rank 5 = .ok (.iload_n 2, 1) := by decide +kernel
theorem dX6_rank_6 : decode cX6_rank 6 = .ok (.iconst 0, 1) := by decide +kernel
theorem dX6_rank_7 : decode cX6_rank 7 = .ok (.bipush 9, 2) := by decide +kernel
theorem dX6_rank_9 : decode cX6_rank 9 = .ok (.invokestatic 98, 3) := by decide +kernel
theorem dX6_rank_12 : decode cX6_rank 12 = .ok (.aload_n 0, 1) := by decide +kernel
theorem dX6_rank_13 : decode cX6_rank 13 = .ok (.getfield 19, 3) := by decide +kernel
theorem dX6_rank_16 : decode cX6_rank 16 = .ok (.aload_n 0, 1) := by decide +kernel
theorem dX6_rank_17 : decode cX6_rank 17 = .ok (.getfield 12, 3) := by decide +kernel
theorem dX6_rank_20 : decode cX6_rank 20 = .ok (.invokevirtual 79, 3) := by decide +kernel
theorem dX6_rank_23 : decode cX6_rank 23 = .ok (.aload_n 0, 1) := by decide +kernel
theorem dX6_rank_24 : decode cX6_rank 24 = .ok (.getfield 12, 3) := by decide +kernel
theorem dX6_rank_27 : decode cX6_rank 27 = .ok (.getfield 102, 3) := by decide +kernel
theorem dX6_rank_30 : decode cX6_rank 30 = .ok (.iload_n 1, 1) := by decide +kernel
theorem dX6_rank_31 : decode cX6_rank 31 = .ok (.invokevirtual 105, 3) := by decide +kernel
theorem dX6_rank_34 : decode cX6_rank 34 = .ok (.istore_n 3, 1) := by decide +kernel
theorem dX6_rank_35 : decode cX6_rank 35 = .ok (.aload_n 0, 1) := by decide +kernel
theorem dX6_rank_36 : decode cX6_rank 36 = .ok (.getfield 12, 3) := by decide +kernel
theorem dX6_rank_39 : decode cX6_rank 39 = .ok (.getfield 102, 3) := by decide +kernel
theorem dX6_rank_42 : decode cX6_rank 42 = .ok (.iload_n 1, 1) := by decide +kernel
theorem dX6_rank_43 : decode cX6_rank 43 = .ok (.iload_n 2, 1) := by decide +kernel
theorem dX6_rank_44 : decode cX6_rank 44 = .ok (.invokevirtual 109, 3) := by decide +kernel
theorem dX6_rank_47 : decode cX6_rank 47 = .ok (.iload_n 3, 1) := by decide +kernel
theorem dX6_rank_48 : decode cX6_rank 48 = .ok (.ireturn, 1) := by decide +kernel
theorem dX6_teach_0 : decode cX6_teach 0 = .ok (.iload_n 1, 1) := by decide +kernel
theorem dX6_teach_1 : decode cX6_teach 1 = .ok (.invokestatic 113, 3) := by decide +kernel
theorem dX6_teach_4 : decode cX6_teach 4 = .ok (.iload_n 2, 1) := by decide +kernel
theorem dX6_teach_5 : decode cX6_teach 5 = .ok (.bipush (-5), 2) := by decide +kernel
theorem dX6_teach_7 : decode cX6_teach 7 = .ok (.iconst 5, 1) := by decide +kernel
theorem dX6_teach_8 : decode cX6_teach 8 = .ok (.invokestatic 98, 3) := by decide +kernel
theorem dX6_teach_11 : decode cX6_teach 11 = .ok (.aload_n 0, 1) := by decide +kernel
theorem dX6_teach_12 : decode cX6_teach 12 = .ok (.getfield 19, 3) := by decide +kernel
theorem dX6_teach_15 : decode cX6_teach 15 = .ok (.aload_n 0, 1) := by decide +kernel
theorem dX6_teach_16 : decode cX6_teach 16 = .ok (.getfield 12, 3) := by decide +kernel
theorem dX6_teach_19 : decode cX6_teach 19 = .ok (.invokevirtual 79, 3) := by decide +kernel
theorem dX6_teach_22 : decode cX6_teach 22 = .ok (.aload_n 0, 1) := by decide +kernel
theorem dX6_teach_23 : decode cX6_teach 23 = .ok (.getfield 12, 3) := by decide +kernel
theorem dX6_teach_26 : decode cX6_teach 26 = .ok (.getfield 116, 3) := by decide +kernel
theorem dX6_teach_29 : decode cX6_teach 29 = .ok (.iload_n 1, 1) := by decide +kernel
theorem dX6_teach_30 : decode cX6_teach 30 = .ok (.invokevirtual 105, 3) := by decide +kernel
theorem dX6_teach_33 : decode cX6_teach 33 = .ok (.istore_n 3, 1) := by decide +kernel
theorem dX6_teach_34 : decode cX6_teach 34 = .ok (.aload_n 0, 1) := by decide +kernel
theorem dX6_teach_35 : decode cX6_teach 35 = .ok (.getfield 12, 3) := by decide +kernel
theorem dX6_teach_38 : decode cX6_teach 38 = .ok (.getfield 116, 3) := by decide +kernel
theorem dX6_teach_41 : decode cX6_teach 41 = .ok (.iload_n 1, 1) := by decide +kernel
theorem dX6_teach_42 : decode cX6_teach 42 = .ok (.iload_n 2, 1) := by decide +kernel
theorem dX6_teach_43 : decode cX6_teach 43 = .ok (.invokevirtual 109, 3) := by decide +kernel
theorem dX6_teach_46 : decode cX6_teach 46 = .ok (.iload_n 3, 1) := by decide +kernel
theorem dX6_teach_47 : decode cX6_teach 47 = .ok (.iconst 5, 1) := by decide +kernel
theorem dX6_teach_48 : decode cX6_teach 48 = .ok (.iadd, 1) := by decide +kernel
theorem dX6_teach_49 : decode cX6_teach 49 = .ok (.ireturn, 1) := by decide +kernel
theorem dX6_carve_0 : decode cX6_carve 0 = .ok (.iload_n 1, 1) := by decide +kernel
theorem dX6_carve_1 : decode cX6_carve 1 = .ok (.invokestatic 119, 3) := by decide +kernel
theorem dX6_carve_4 : decode cX6_carve 4 = .ok (.iload_n 2, 1) := by decide +kernel
theorem dX6_carve_5 : decode cX6_carve 5 = .ok (.invokestatic 113, 3) := by decide +kernel
theorem dX6_carve_8 : decode cX6_carve 8 = .ok (.aload_n 0, 1) := by decide +kernel
theorem dX6_carve_9 : decode cX6_carve 9 = .ok (.getfield 19, 3) := by decide +kernel
theorem dX6_carve_12 : decode cX6_carve 12 = .ok (.aload_n 0, 1) := by decide +kernel
theorem dX6_carve_13 : decode cX6_carve 13 = .ok (.getfield 12, 3) := by decide +kernel
theorem dX6_carve_16 : decode cX6_carve 16 = .ok (.invokevirtual 79, 3) := by decide +kernel
theorem dX6_carve_19 : decode cX6_carve 19 = .ok (.aload_n 0, 1) := by decide +kernel
theorem dX6_carve_20 : decode cX6_carve 20 = .ok (.getfield 42, 3) := by decide +kernel
theorem dX6_carve_23 : decode cX6_carve 23 = .ok (.aload_n 0, 1) := by decide +kernel
theorem dX6_carve_24 : decode cX6_carve 24 = .ok (.getfield 12, 3) := by decide +kernel
theorem dX6_carve_27 : decode cX6_carve 27 = .ok (.iload_n 1, 1) := by decide +kernel
theorem dX6_carve_28 : decode cX6_carve 28 = .ok (.aload_n 0, 1) := by decide +kernel
theorem dX6_carve_29 : decode cX6_carve 29 = .ok (.getfield 12, 3) := by decide +kernel
theorem dX6_carve_32 : decode cX6_carve 32 = .ok (.getfield 116, 3) := by decide +kernel
theorem dX6_carve_35 : decode cX6_carve 35 = .ok (.iload_n 2, 1) := by decide +kernel
theorem dX6_carve_36 : decode cX6_carve 36 = .ok (.invokevirtual 105, 3) := by decide +kernel
theorem dX6_carve_39 : decode cX6_carve 39 = .ok (.invokevirtual 122, 3) := by decide +kernel
theorem dX6_carve_42 : decode cX6_carve 42 = .ok (.aload_n 0, 1) := by decide +kernel
theorem dX6_carve_43 : decode cX6_carve 43 = .ok (.getfield 12, 3) := by decide +kernel
theorem dX6_carve_46 : decode cX6_carve 46 = .ok (.iload_n 1, 1) := by decide +kernel
theorem dX6_carve_47 : decode cX6_carve 47 = .ok (.iload_n 2, 1) := by decide +kernel
theorem dX6_carve_48 : decode cX6_carve 48 = .ok (.aload_n 0, 1) := by decide +kernel
theorem dX6_carve_49 : decode cX6_carve 49 = .ok (.getfield 42, 3) := by decide +kernel
theorem dX6_carve_52 : decode cX6_carve 52 = .ok (.getfield 126, 3) := by decide +kernel
theorem dX6_carve_55 : decode cX6_carve 55 = .ok (.invokevirtual 129, 3) := by decide +kernel
theorem dX6_carve_58 : decode cX6_carve 58 = .ok (.aload_n 0, 1) := by decide +kernel
theorem dX6_carve_59 : decode cX6_carve 59 = .ok (.getfield 12, 3) := by decide +kernel
theorem dX6_carve_62 : decode cX6_carve 62 = .ok (.iconst 0, 1) := by decide +kernel
theorem dX6_carve_63 : decode cX6_carve 63 = .ok (.invokevirtual 133, 3) := by decide +kernel
theorem dX6_carve_66 : decode cX6_carve 66 = .ok (.ireturn, 1) := by decide +kernel
theorem dX6_burn_0 : decode cX6_burn 0 = .ok (.aload_n 0, 1) := by decide +kernel
theorem dX6_burn_1 : decode cX6_burn 1 = .ok (.iload_n 1, 1) := by decide +kernel
theorem dX6_burn_2 : decode cX6_burn 2 = .ok (.invokevirtual 136, 3) := by decide +kernel
theorem dX6_burn_5 : decode cX6_burn 5 = .ok (.aload_n 0, 1) := by decide +kernel
theorem dX6_burn_6 : decode cX6_burn 6 = .ok (.getfield 19, 3) := by decide +kernel
theorem dX6_burn_9 : decode cX6_burn 9 = .ok (.aload_n 0, 1) := by decide +kernel
theorem dX6_burn_10 : decode cX6_burn 10 = .ok (.getfield 12, 3) := by decide +kernel
theorem dX6_burn_13 : decode cX6_burn 13 = .ok (.invokevirtual 79, 3) := by decide +kernel
theorem dX6_burn_16 : decode cX6_burn 16 = .ok (.aload_n 0, 1) := by decide +kernel
theorem dX6_burn_17 : decode cX6_burn 17 = .ok (.getfield 12, 3) := by decide +kernel
theorem dX6_burn_20 : decode cX6_burn 20 = .ok (.getfield 139, 3) := by decide +kernel
theorem dX6_burn_23 : decode cX6_burn 23 = .ok (.iload_n 1, 1) := by decide +kernel
theorem dX6_burn_24 : decode cX6_burn 24 = .ok (.invokevirtual 105, 3) := by decide +kernel
theorem dX6_burn_27 : decode cX6_burn 27 = .ok (.istore_n 2, 1) := by decide +kernel
theorem dX6_burn_28 : decode cX6_burn 28 = .ok (.aload_n 0, 1) := by decide +kernel
theorem dX6_burn_29 : decode cX6_burn 29 = .ok (.getfield 12, 3) := by decide +kernel
theorem dX6_burn_32 : decode cX6_burn 32 = .ok (.iload_n 1, 1) := by decide +kernel
theorem dX6_burn_33 : decode cX6_burn 33 = .ok (.invokevirtual 142, 3) := by decide +kernel
theorem dX6_burn_36 : decode cX6_burn 36 = .ok (.iload_n 2, 1) := by decide +kernel
theorem dX6_burn_37 : decode cX6_burn 37 = .ok (.ireturn, 1) := by decide +kernel
theorem dX6_set_0 : decode cX6_set 0 = .ok (.iload_n 1, 1) := by decide +kernel
theorem dX6_set_1 : decode cX6_set 1 = .ok (.bipush 50, 2) := by decide +kernel
theorem dX6_set_3 : decode cX6_set 3 = .ok (.sipush 400, 3) := by decide +kernel
theorem dX6_set_6 : decode cX6_set 6 = .ok (.invokestatic 98, 3) := by decide +kernel
theorem dX6_set_9 : decode cX6_set 9 = .ok (.aload_n 0, 1) := by decide +kernel
theorem dX6_set_10 : decode cX6_set 10 = .ok (.getfield 19, 3) := by decide +kernel
theorem dX6_set_13 : decode cX6_set 13 = .ok (.aload_n 0, 1) := by decide +kernel
theorem dX6_set_14 : decode cX6_set 14 = .ok (.getfield 12, 3) := by decide +kernel
theorem dX6_set_17 : decode cX6_set 17 = .ok (.invokevirtual 79, 3) := by decide +kernel
theorem dX6_set_20 : decode cX6_set 20 = .ok (.aload_n 0, 1) := by decide +kernel
theorem dX6_set_21 : decode cX6_set 21 = .ok (.getfield 12, 3) := by decide +kernel
theorem dX6_set_24 : decode cX6_set 24 = .ok (.getfield 145, 3) := by decide +kernel
theorem dX6_set_27 : decode cX6_set 27 = .ok (.istore_n 2, 1) := by decide +kernel
theorem dX6_set_28 : decode cX6_set 28 = .ok (.aload_n 0, 1) := by decide +kernel
theorem dX6_set_29 : decode cX6_set 29 = .ok (.getfield 12, 3) := by decide +kernel
theorem dX6_set_32 : decode cX6_set 32 = .ok (.iload_n 1, 1) := by decide +kernel
theorem dX6_set_33 : decode cX6_set 33 = .ok (.putfield 145, 3) := by decide +kernel
theorem dX6_set_36 : decode cX6_set 36 = .ok (.iload_n 2, 1) := by decide +kernel
theorem dX6_set_37 : decode cX6_set 37 = .ok (.ireturn, 1) := by decide +kernel
theorem dX6_append_0 : decode cX6_append 0 = .ok (.iload_n 1, 1) := by decide +kernel
theorem dX6_append_1 : decode cX6_append 1 = .ok (.bipush 33, 2) := by decide +kernel
theorem dX6_append_3 : decode cX6_append 3 = .ok (.bipush 126, 2) := by decide +kernel
theorem dX6_append_5 : decode cX6_append 5 = .ok (.invokestatic 98, 3) := by decide +kernel
theorem dX6_append_8 : decode cX6_append 8 = .ok (.aload_n 0, 1) := by decide +kernel
theorem dX6_append_9 : decode cX6_append 9 = .ok (.getfield 64, 3) := by decide +kernel
theorem dX6_append_12 : decode cX6_append 12 = .ok (.bipush 60, 2) := by decide +kernel
theorem dX6_append_14 : decode cX6_append 14 = .ok (.if_icmp .lt 13, 3) := by decide +kernel
theorem dX6_append_17 : decode cX6_append 17 = .ok (.new 90, 3) := by decide +kernel
theorem dX6_append_20 : decode cX6_append 20 = .ok (.dup, 1) := by decide +kernel
theorem dX6_append_21 : decode cX6_append 21 = .ok (.ldc 148, 2) := by decide +kernel
theorem dX6_append_23 : decode cX6_append 23 = .ok (.invokespecial 94, 3) := by decide +kernel
theorem dX6_append_26 : decode cX6_append 26 = .ok (.athrow, 1) := by decide +kernel
theorem dX6_append_27 : decode cX6_append 27 = .ok (.aload_n 0, 1) := by decide +kernel
theorem dX6_append_28 : decode cX6_append 28 = .ok (.getfield 28, 3) := by decide +kernel
theorem dX6_append_31 : decode cX6_append 31 = .ok (.aload_n 0, 1) := by decide +kernel
theorem dX6_append_32 : decode cX6_append 32 = .ok (.getfield 64, 3) := by decide +kernel
theorem dX6_append_35 : decode cX6_append 35 = .ok (.iload_n 1, 1) := by decide +kernel
theorem dX6_append_36 : decode cX6_append 36 = .ok (.invokevirtual 109, 3) := by decide +kernel
theorem dX6_append_39 : decode cX6_append 39 = .ok (.aload_n 0, 1) := by decide +kernel
theorem dX6_append_40 : decode cX6_append 40 = .ok (.dup, 1) := by decide +kernel
theorem dX6_append_41 : decode cX6_append 41 = .ok (.getfield 64, 3) := by decide +kernel
theorem dX6_append_44 : decode cX6_append 44 = .ok (.iconst 1, 1) := by decide +kernel
theorem dX6_append_45 : decode cX6_append 45 = .ok (.iadd, 1) := by decide +kernel
theorem dX6_append_46 : decode cX6_append 46 = .ok (.putfield 64, 3) := by decide +kernel
theorem dX6_append_49 : decode cX6_append 49 = .ok (.aload_n 0, 1) := by decide +kernel
theorem dX6_append_50 : decode cX6_append 50 = .ok (.getfield 64, 3) := by decide +kernel
theorem dX6_append_53 : decode cX6_append 53 = .ok (.ireturn, 1) := by decide +kernel
theorem dX6_undo_0 : decode cX6_undo 0 = .ok (.aload_n 0, 1) := by decide +kernel
theorem dX6_undo_1 : decode cX6_undo 1 = .ok (.getfield 19, 3) := by decide +kernel
theorem dX6_undo_4 : decode cX6_undo 4 = .ok (.invokevirtual 153, 3) := by decide +kernel
theorem dX6_undo_7 : decode cX6_undo 7 = .ok (.ifCond .eq 13, 3) := by decide +kernel
theorem dX6_undo_10 : decode cX6_undo 10 = .ok (.new 90, 3) := by decide +kernel
theorem dX6_undo_13 : decode cX6_undo 13 = .ok (.dup, 1) := by decide +kernel
theorem dX6_undo_14 : decode cX6_undo 14 = .ok (.ldc 156, 2) := by decide +kernel
theorem dX6_undo_16 : decode cX6_undo 16 = .ok (.invokespecial 94, 3) := by decide +kernel
theorem dX6_undo_19 : decode cX6_undo 19 = .ok (.athrow, 1) := by decide +kernel
theorem dX6_undo_20 : decode cX6_undo 20 = .ok (.aload_n 0, 1) := by decide +kernel
theorem dX6_undo_21 : decode cX6_undo 21 = .ok (.getfield 19, 3) := by decide +kernel
theorem dX6_undo_24 : decode cX6_undo 24 = .ok (.aload_n 0, 1) := by decide +kernel
theorem dX6_undo_25 : decode cX6_undo 25 = .ok (.getfield 12, 3) := by decide +kernel
theorem dX6_undo_28 : decode cX6_undo 28 = .ok (.invokevirtual 158, 3) := by decide +kernel
theorem dX6_undo_31 : decode cX6_undo 31 = .ok (.aload_n 0, 1) := by decide +kernel
theorem dX6_undo_32 : decode cX6_undo 32 = .ok (.getfield 19, 3) := by decide +kernel
theorem dX6_undo_35 : decode cX6_undo 35 = .ok (.invokevirtual 161, 3) := by decide +kernel
theorem dX6_undo_38 : decode cX6_undo 38 = .ok (.ireturn, 1) := by decide +kernel
theorem dX6_day_0 : decode cX6_day 0 = .ok (.iload_n 1, 1) := by decide +kernel
theorem dX6_day_1 : decode cX6_day 1 = .ok (.invokestatic 119, 3) := by decide +kernel
theorem dX6_day_4 : decode cX6_day 4 = .ok (.iload_n 2, 1) := by decide +kernel
theorem dX6_day_5 : decode cX6_day 5 = .ok (.iconst 0, 1) := by decide +kernel
theorem dX6_day_6 : decode cX6_day 6 = .ok (.sipush 365, 3) := by decide +kernel
theorem dX6_day_9 : decode cX6_day 9 = .ok (.invokestatic 98, 3) := by decide +kernel
theorem dX6_day_12 : decode cX6_day 12 = .ok (.iload_n 3, 1) := by decide +kernel
theorem dX6_day_13 : decode cX6_day 13 = .ok (.iconst 0, 1) := by decide +kernel
theorem dX6_day_14 : decode cX6_day 14 = .ok (.iconst 2, 1) := by decide +kernel
theorem dX6_day_15 : decode cX6_day 15 = .ok (.invokestatic 98, 3) := by decide +kernel
theorem dX6_day_18 : decode cX6_day 18 = .ok (.iload_n 2, 1) := by decide +kernel
theorem dX6_day_19 : decode cX6_day 19 = .ok (.iload_n 1, 1) := by decide +kernel
theorem dX6_day_20 : decode cX6_day 20 = .ok (.invokestatic 164, 3) := by decide +kernel
theorem dX6_day_23 : decode cX6_day 23 = .ok (.if_icmp .lt 5, 3) := by decide +kernel
theorem dX6_day_26 : decode cX6_day 26 = .ok (.iconst (-1), 1) := by decide +kernel
theorem dX6_day_27 : decode cX6_day 27 = .ok (.ireturn, 1) := by decide +kernel
theorem dX6_day_28 : decode cX6_day 28 = .ok (.iload_n 3, 1) := by decide +kernel
theorem dX6_day_29 : decode cX6_day 29 = .ok (.lookupswitch 64 #[(0, 27), (1, 37)], 27) := by decide +kernel
theorem dX6_day_56 : decode cX6_day 56 = .ok (.iload_n 1, 1) := by decide +kernel
theorem dX6_day_57 : decode cX6_day 57 = .ok (.invokestatic 167, 3) := by decide +kernel
theorem dX6_day_60 : decode cX6_day 60 = .ok (.iload_n 2, 1) := by decide +kernel
theorem dX6_day_61 : decode cX6_day 61 = .ok (.iadd, 1) := by decide +kernel
theorem dX6_day_62 : decode cX6_day 62 = .ok (.bipush 7, 2) := by decide +kernel
theorem dX6_day_64 : decode cX6_day 64 = .ok (.irem, 1) := by decide +kernel
theorem dX6_day_65 : decode cX6_day 65 = .ok (.ireturn, 1) := by decide +kernel
theorem dX6_day_66 : decode cX6_day 66 = .ok (.iload_n 1, 1) := by decide +kernel
theorem dX6_day_67 : decode cX6_day 67 = .ok (.aload_n 0, 1) := by decide +kernel
theorem dX6_day_68 : decode cX6_day 68 = .ok (.getfield 12, 3) := by decide +kernel
theorem dX6_day_71 : decode cX6_day 71 = .ok (.getfield 116, 3) := by decide +kernel
theorem dX6_day_74 : decode cX6_day 74 = .ok (.iconst 0, 1) := by decide +kernel
theorem dX6_day_75 : decode cX6_day 75 = .ok (.invokevirtual 105, 3) := by decide +kernel
theorem dX6_day_78 : decode cX6_day 78 = .ok (.aload_n 0, 1) := by decide +kernel
theorem dX6_day_79 : decode cX6_day 79 = .ok (.getfield 12, 3) := by decide +kernel
theorem dX6_day_82 : decode cX6_day 82 = .ok (.getfield 145, 3) := by decide +kernel
theorem dX6_day_85 : decode cX6_day 85 = .ok (.invokestatic 170, 3) := by decide +kernel
theorem dX6_day_88 : decode cX6_day 88 = .ok (.iload_n 2, 1) := by decide +kernel
theorem dX6_day_89 : decode cX6_day 89 = .ok (.invokestatic 174, 3) := by decide +kernel
theorem dX6_day_92 : decode cX6_day 92 = .ok (.ireturn, 1) := by decide +kernel
theorem dX6_day_93 : decode cX6_day 93 = .ok (.aload_n 0, 1) := by decide +kernel
theorem dX6_day_94 : decode cX6_day 94 = .ok (.iload_n 1, 1) := by decide +kernel
theorem dX6_day_95 : decode cX6_day 95 = .ok (.iload_n 2, 1) := by decide +kernel
theorem dX6_day_96 : decode cX6_day 96 = .ok (.invokevirtual 178, 3) := by decide +kernel
theorem dX6_day_99 : decode cX6_day 99 = .ok (.ireturn, 1) := by decide +kernel
theorem dX6_feast_0 : decode cX6_feast 0 = .ok (.aload_n 0, 1) := by decide +kernel
theorem dX6_feast_1 : decode cX6_feast 1 = .ok (.iload_n 1, 1) := by decide +kernel
theorem dX6_feast_2 : decode cX6_feast 2 = .ok (.invokevirtual 95, 3) := by decide +kernel
theorem dX6_feast_5 : decode cX6_feast 5 = .ok (.iload_n 2, 1) := by decide +kernel
theorem dX6_feast_6 : decode cX6_feast 6 = .ok (.iconst 0, 1) := by decide +kernel
theorem dX6_feast_7 : decode cX6_feast 7 = .ok (.iconst 3, 1) := by decide +kernel
theorem dX6_feast_8 : decode cX6_feast 8 = .ok (.invokestatic 98, 3) := by decide +kernel
theorem dX6_feast_11 : decode cX6_feast 11 = .ok (.aload_n 0, 1) := by decide +kernel
theorem dX6_feast_12 : decode cX6_feast 12 = .ok (.iload_n 1, 1) := by decide +kernel
theorem dX6_feast_13 : decode cX6_feast 13 = .ok (.iload_n 2, 1) := by decide +kernel
theorem dX6_feast_14 : decode cX6_feast 14 = .ok (.invokevirtual 181, 3) := by decide +kernel
theorem dX6_feast_17 : decode cX6_feast 17 = .ok (.ireturn, 1) := by decide +kernel
theorem dX6_when_0 : decode cX6_when 0 = .ok (.aload_n 0, 1) := by decide +kernel
theorem dX6_when_1 : decode cX6_when 1 = .ok (.iload_n 1, 1) := by decide +kernel
theorem dX6_when_2 : decode cX6_when 2 = .ok (.invokevirtual 95, 3) := by decide +kernel
theorem dX6_when_5 : decode cX6_when 5 = .ok (.iload_n 2, 1) := by decide +kernel
theorem dX6_when_6 : decode cX6_when 6 = .ok (.invokestatic 119, 3) := by decide +kernel
theorem dX6_when_9 : decode cX6_when 9 = .ok (.iload_n 3, 1) := by decide +kernel
theorem dX6_when_10 : decode cX6_when 10 = .ok (.invokestatic 113, 3) := by decide +kernel
theorem dX6_when_13 : decode cX6_when 13 = .ok (.aload_n 0, 1) := by decide +kernel
theorem dX6_when_14 : decode cX6_when 14 = .ok (.getfield 42, 3) := by decide +kernel
theorem dX6_when_17 : decode cX6_when 17 = .ok (.aload_n 0, 1) := by decide +kernel
theorem dX6_when_18 : decode cX6_when 18 = .ok (.getfield 12, 3) := by decide +kernel
theorem dX6_when_21 : decode cX6_when 21 = .ok (.iload_n 2, 1) := by decide +kernel
theorem dX6_when_22 : decode cX6_when 22 = .ok (.aload_n 0, 1) := by decide +kernel
theorem dX6_when_23 : decode cX6_when 23 = .ok (.getfield 12, 3) := by decide +kernel
theorem dX6_when_26 : decode cX6_when 26 = .ok (.getfield 116, 3) := by decide +kernel
theorem dX6_when_29 : decode cX6_when 29 = .ok (.iload_n 3, 1) := by decide +kernel
theorem dX6_when_30 : decode cX6_when 30 = .ok (.invokevirtual 105, 3) := by decide +kernel
theorem dX6_when_33 : decode cX6_when 33 = .ok (.invokevirtual 122, 3) := by decide +kernel
theorem dX6_when_36 : decode cX6_when 36 = .ok (.iload 4, 2) := by decide +kernel
theorem dX6_when_38 : decode cX6_when 38 = .ok (.ifCond .eq 17, 3) := by decide +kernel
theorem dX6_when_41 : decode cX6_when 41 = .ok (.aload_n 0, 1) := by decide +kernel
theorem dX6_when_42 : decode cX6_when 42 = .ok (.getfield 42, 3) := by decide +kernel
theorem dX6_when_45 : decode cX6_when 45 = .ok (.getfield 184, 3) := by decide +kernel
theorem dX6_when_48 : decode cX6_when 48 = .ok (.iload_n 1, 1) := by decide +kernel
theorem dX6_when_49 : decode cX6_when 49 = .ok (.invokevirtual 105, 3) := by decide +kernel
theorem dX6_when_52 : decode cX6_when 52 = .ok (.goto 14, 3) := by decide +kernel
theorem dX6_when_55 : decode cX6_when 55 = .ok (.aload_n 0, 1) := by decide +kernel
theorem dX6_when_56 : decode cX6_when 56 = .ok (.getfield 42, 3) := by decide +kernel
theorem dX6_when_59 : decode cX6_when 59 = .ok (.getfield 126, 3) := by decide +kernel
theorem dX6_when_62 : decode cX6_when 62 = .ok (.iload_n 1, 1) := by decide +kernel
theorem dX6_when_63 : decode cX6_when 63 = .ok (.invokevirtual 105, 3) := by decide +kernel
theorem dX6_when_66 : decode cX6_when 66 = .ok (.ireturn, 1) := by decide +kernel
theorem dX6_settled_0 : decode cX6_settled 0 = .ok (.aload_n 0, 1) := by decide +kernel
theorem dX6_settled_1 : decode cX6_settled 1 = .ok (.iload_n 1, 1) := by decide +kernel
theorem dX6_settled_2 : decode cX6_settled 2 = .ok (.invokevirtual 95, 3) := by decide +kernel
theorem dX6_settled_5 : decode cX6_settled 5 = .ok (.iload_n 2, 1) := by decide +kernel
theorem dX6_settled_6 : decode cX6_settled 6 = .ok (.invokestatic 119, 3) := by decide +kernel
theorem dX6_settled_9 : decode cX6_settled 9 = .ok (.aload_n 0, 1) := by decide +kernel
theorem dX6_settled_10 : decode cX6_settled 10 = .ok (.getfield 49, 3) := by decide +kernel
theorem dX6_settled_13 : decode cX6_settled 13 = .ok (.aload_n 0, 1) := by decide +kernel
theorem dX6_settled_14 : decode cX6_settled 14 = .ok (.getfield 12, 3) := by decide +kernel
theorem dX6_settled_17 : decode cX6_settled 17 = .ok (.iload_n 2, 1) := by decide +kernel
theorem dX6_settled_18 : decode cX6_settled 18 = .ok (.invokevirtual 187, 3) := by decide +kernel
theorem dX6_settled_21 : decode cX6_settled 21 = .ok (.aload_n 0, 1) := by decide +kernel
theorem dX6_settled_22 : decode cX6_settled 22 = .ok (.getfield 49, 3) := by decide +kernel
theorem dX6_settled_25 : decode cX6_settled 25 = .ok (.iload_n 1, 1) := by decide +kernel
theorem dX6_settled_26 : decode cX6_settled 26 = .ok (.invokevirtual 191, 3) := by decide +kernel
theorem dX6_settled_29 : decode cX6_settled 29 = .ok (.ireturn, 1) := by decide +kernel
theorem dX6_quarrels_0 : decode cX6_quarrels 0 = .ok (.iload_n 1, 1) := by decide +kernel
theorem dX6_quarrels_1 : decode cX6_quarrels 1 = .ok (.invokestatic 119, 3) := by decide +kernel
theorem dX6_quarrels_4 : decode cX6_quarrels 4 = .ok (.aload_n 0, 1) := by decide +kernel
theorem dX6_quarrels_5 : decode cX6_quarrels 5 = .ok (.getfield 49, 3) := by decide +kernel
theorem dX6_quarrels_8 : decode cX6_quarrels 8 = .ok (.aload_n 0, 1) := by decide +kernel
theorem dX6_quarrels_9 : decode cX6_quarrels 9 = .ok (.getfield 12, 3) := by decide +kernel
theorem dX6_quarrels_12 : decode cX6_quarrels 12 = .ok (.iload_n 1, 1) := by decide +kernel
theorem dX6_quarrels_13 : decode cX6_quarrels 13 = .ok (.invokevirtual 187, 3) := by decide +kernel
theorem dX6_quarrels_16 : decode cX6_quarrels 16 = .ok (.aload_n 0, 1) := by decide +kernel
theorem dX6_quarrels_17 : decode cX6_quarrels 17 = .ok (.getfield 49, 3) := by decide +kernel
theorem dX6_quarrels_20 : decode cX6_quarrels 20 = .ok (.aload_n 0, 1) := by decide +kernel
theorem dX6_quarrels_21 : decode cX6_quarrels 21 = .ok (.getfield 12, 3) := by decide +kernel
theorem dX6_quarrels_24 : decode cX6_quarrels 24 = .ok (.getfield 87, 3) := by decide +kernel
theorem dX6_quarrels_27 : decode cX6_quarrels 27 = .ok (.invokevirtual 194, 3) := by decide +kernel
theorem dX6_quarrels_30 : decode cX6_quarrels 30 = .ok (.ireturn, 1) := by decide +kernel
theorem dX6_stick_0 : decode cX6_stick 0 = .ok (.aload_n 0, 1) := by decide +kernel
theorem dX6_stick_1 : decode cX6_stick 1 = .ok (.iload_n 1, 1) := by decide +kernel
theorem dX6_stick_2 : decode cX6_stick 2 = .ok (.invokevirtual 136, 3) := by decide +kernel
theorem dX6_stick_5 : decode cX6_stick 5 = .ok (.iload_n 2, 1) := by decide +kernel
theorem dX6_stick_6 : decode cX6_stick 6 = .ok (.iconst 0, 1) := by decide +kernel
theorem dX6_stick_7 : decode cX6_stick 7 = .ok (.bipush 13, 2) := by decide +kernel
theorem dX6_stick_9 : decode cX6_stick 9 = .ok (.invokestatic 98, 3) := by decide +kernel
theorem dX6_stick_12 : decode cX6_stick 12 = .ok (.aload_n 0, 1) := by decide +kernel
theorem dX6_stick_13 : decode cX6_stick 13 = .ok (.iload_n 1, 1) := by decide +kernel
theorem dX6_stick_14 : decode cX6_stick 14 = .ok (.iload_n 2, 1) := by decide +kernel
theorem dX6_stick_15 : decode cX6_stick 15 = .ok (.invokevirtual 197, 3) := by decide +kernel
theorem dX6_stick_18 : decode cX6_stick 18 = .ok (.ireturn, 1) := by decide +kernel
theorem dX6_count_0 : decode cX6_count 0 = .ok (.iload_n 1, 1) := by decide +kernel
theorem dX6_count_1 : decode cX6_count 1 = .ok (.iconst 0, 1) := by decide +kernel
theorem dX6_count_2 : decode cX6_count 2 = .ok (.bipush 7, 2) := by decide +kernel
theorem dX6_count_4 : decode cX6_count 4 = .ok (.invokestatic 98, 3) := by decide +kernel
theorem dX6_count_7 : decode cX6_count 7 = .ok (.aload_n 0, 1) := by decide +kernel
theorem dX6_count_8 : decode cX6_count 8 = .ok (.iload_n 1, 1) := by decide +kernel
theorem dX6_count_9 : decode cX6_count 9 = .ok (.invokevirtual 200, 3) := by decide +kernel
theorem dX6_count_12 : decode cX6_count 12 = .ok (.ireturn, 1) := by decide +kernel
theorem dX6_range_0 : decode cX6_range 0 = .ok (.aload_n 0, 1) := by decide +kernel
theorem dX6_range_1 : decode cX6_range 1 = .ok (.iload_n 1, 1) := by decide +kernel
theorem dX6_range_2 : decode cX6_range 2 = .ok (.invokevirtual 95, 3) := by decide +kernel
theorem dX6_range_5 : decode cX6_range 5 = .ok (.iload_n 2, 1) := by decide +kernel
theorem dX6_range_6 : decode cX6_range 6 = .ok (.invokestatic 119, 3) := by decide +kernel
theorem dX6_range_9 : decode cX6_range 9 = .ok (.iload_n 3, 1) := by decide +kernel
theorem dX6_range_10 : decode cX6_range 10 = .ok (.iconst 1, 1) := by decide +kernel
theorem dX6_range_11 : decode cX6_range 11 = .ok (.bipush 40, 2) := by decide +kernel
theorem dX6_range_13 : decode cX6_range 13 = .ok (.invokestatic 98, 3) := by decide +kernel
theorem dX6_range_16 : decode cX6_range 16 = .ok (.aload_n 0, 1) := by decide +kernel
theorem dX6_range_17 : decode cX6_range 17 = .ok (.iload_n 1, 1) := by decide +kernel
theorem dX6_range_18 : decode cX6_range 18 = .ok (.iload_n 2, 1) := by decide +kernel
theorem dX6_range_19 : decode cX6_range 19 = .ok (.iload_n 3, 1) := by decide +kernel
theorem dX6_range_20 : decode cX6_range 20 = .ok (.iload 4, 2) := by decide +kernel
theorem dX6_range_22 : decode cX6_range 22 = .ok (.invokevirtual 203, 3) := by decide +kernel
theorem dX6_range_25 : decode cX6_range 25 = .ok (.ireturn, 1) := by decide +kernel
theorem dX6_alike_0 : decode cX6_alike 0 = .ok (.iload_n 1, 1) := by decide +kernel
theorem dX6_alike_1 : decode cX6_alike 1 = .ok (.invokestatic 119, 3) := by decide +kernel
theorem dX6_alike_4 : decode cX6_alike 4 = .ok (.aload_n 0, 1) := by decide +kernel
theorem dX6_alike_5 : decode cX6_alike 5 = .ok (.iload_n 1, 1) := by decide +kernel
theorem dX6_alike_6 : decode cX6_alike 6 = .ok (.invokevirtual 207, 3) := by decide +kernel
theorem dX6_alike_9 : decode cX6_alike 9 = .ok (.ireturn, 1) := by decide +kernel
theorem dX6_peace_0 : decode cX6_peace 0 = .ok (.iload_n 1, 1) := by decide +kernel
theorem dX6_peace_1 : decode cX6_peace 1 = .ok (.invokestatic 113, 3) := by decide +kernel
theorem dX6_peace_4 : decode cX6_peace 4 = .ok (.iload_n 2, 1) := by decide +kernel
theorem dX6_peace_5 : decode cX6_peace 5 = .ok (.invokestatic 119, 3) := by decide +kernel
theorem dX6_peace_8 : decode cX6_peace 8 = .ok (.aload_n 0, 1) := by decide +kernel
theorem dX6_peace_9 : decode cX6_peace 9 = .ok (.iload_n 1, 1) := by decide +kernel
theorem dX6_peace_10 : decode cX6_peace 10 = .ok (.iload_n 2, 1) := by decide +kernel
theorem dX6_peace_11 : decode cX6_peace 11 = .ok (.invokevirtual 210, 3) := by decide +kernel
theorem dX6_peace_14 : decode cX6_peace 14 = .ok (.iconst 5, 1) := by decide +kernel
theorem dX6_peace_15 : decode cX6_peace 15 = .ok (.iadd, 1) := by decide +kernel
theorem dX6_peace_16 : decode cX6_peace 16 = .ok (.ireturn, 1) := by decide +kernel
theorem dX6_moved_0 : decode cX6_moved 0 = .ok (.iload_n 1, 1) := by decide +kernel
theorem dX6_moved_1 : decode cX6_moved 1 = .ok (.invokestatic 119, 3) := by decide +kernel
theorem dX6_moved_4 : decode cX6_moved 4 = .ok (.iload_n 2, 1) := by decide +kernel
theorem dX6_moved_5 : decode cX6_moved 5 = .ok (.invokestatic 113, 3) := by decide +kernel
theorem dX6_moved_8 : decode cX6_moved 8 = .ok (.aload_n 0, 1) := by decide +kernel
theorem dX6_moved_9 : decode cX6_moved 9 = .ok (.getfield 42, 3) := by decide +kernel
theorem dX6_moved_12 : decode cX6_moved 12 = .ok (.aload_n 0, 1) := by decide +kernel
theorem dX6_moved_13 : decode cX6_moved 13 = .ok (.getfield 12, 3) := by decide +kernel
theorem dX6_moved_16 : decode cX6_moved 16 = .ok (.iload_n 1, 1) := by decide +kernel
theorem dX6_moved_17 : decode cX6_moved 17 = .ok (.aload_n 0, 1) := by decide +kernel
theorem dX6_moved_18 : decode cX6_moved 18 = .ok (.getfield 12, 3) := by decide +kernel
theorem dX6_moved_21 : decode cX6_moved 21 = .ok (.getfield 116, 3) := by decide +kernel
theorem dX6_moved_24 : decode cX6_moved 24 = .ok (.iload_n 2, 1) := by decide +kernel
theorem dX6_moved_25 : decode cX6_moved 25 = .ok (.invokevirtual 105, 3) := by decide +kernel
theorem dX6_moved_28 : decode cX6_moved 28 = .ok (.invokevirtual 122, 3) := by decide +kernel
theorem dX6_moved_31 : decode cX6_moved 31 = .ok (.aload_n 0, 1) := by decide +kernel
theorem dX6_moved_32 : decode cX6_moved 32 = .ok (.getfield 42, 3) := by decide +kernel
theorem dX6_moved_35 : decode cX6_moved 35 = .ok (.aload_n 0, 1) := by decide +kernel
theorem dX6_moved_36 : decode cX6_moved 36 = .ok (.getfield 12, 3) := by decide +kernel
theorem dX6_moved_39 : decode cX6_moved 39 = .ok (.getfield 87, 3) := by decide +kernel
theorem dX6_moved_42 : decode cX6_moved 42 = .ok (.invokevirtual 213, 3) := by decide +kernel
theorem dX6_moved_45 : decode cX6_moved 45 = .ok (.ireturn, 1) := by decide +kernel
theorem dX6_freshShare_0 : decode cX6_freshShare 0 = .ok (.aload_n 0, 1) := by decide +kernel
theorem dX6_freshShare_1 : decode cX6_freshShare 1 = .ok (.invokevirtual 216, 3) := by decide +kernel
theorem dX6_freshShare_4 : decode cX6_freshShare 4 = .ok (.dreturn, 1) := by decide +kernel
theorem dX6_needWithin_0 : decode cX6_needWithin 0 = .ok (.iload_n 0, 1) := by decide +kernel
theorem dX6_needWithin_1 : decode cX6_needWithin 1 = .ok (.iload_n 1, 1) := by decide +kernel
theorem dX6_needWithin_2 : decode cX6_needWithin 2 = .ok (.if_icmp .lt 8, 3) := by decide +kernel
theorem dX6_needWithin_5 : decode cX6_needWithin 5 = .ok (.iload_n 0, 1) := by decide +kernel
theorem dX6_needWithin_6 : decode cX6_needWithin 6 = .ok (.iload_n 2, 1) := by decide +kernel
theorem dX6_needWithin_7 : decode cX6_needWithin 7 = .ok (.if_icmp .le 13, 3) := by decide +kernel
theorem dX6_needWithin_10 : decode cX6_needWithin 10 = .ok (.new 72, 3) := by decide +kernel
theorem dX6_needWithin_13 : decode cX6_needWithin 13 = .ok (.dup, 1) := by decide +kernel
theorem dX6_needWithin_14 : decode cX6_needWithin 14 = .ok (.ldc 243, 2) := by decide +kernel
theorem dX6_needWithin_16 : decode cX6_needWithin 16 = .ok (.invokespecial 76, 3) := by decide +kernel
theorem dX6_needWithin_19 : decode cX6_needWithin 19 = .ok (.athrow, 1) := by decide +kernel
theorem dX6_needWithin_20 : decode cX6_needWithin 20 = .ok (.return_, 1) := by decide +kernel
theorem dX6_needYear_0 : decode cX6_needYear 0 = .ok (.iload_n 0, 1) := by decide +kernel
theorem dX6_needYear_1 : decode cX6_needYear 1 = .ok (.iconst 0, 1) := by decide +kernel
theorem dX6_needYear_2 : decode cX6_needYear 2 = .ok (.sipush 999, 3) := by decide +kernel
theorem dX6_needYear_5 : decode cX6_needYear 5 = .ok (.invokestatic 98, 3) := by decide +kernel
theorem dX6_needYear_8 : decode cX6_needYear 8 = .ok (.return_, 1) := by decide +kernel
theorem dX6_needCarver_0 : decode cX6_needCarver 0 = .ok (.iload_n 0, 1) := by decide +kernel
theorem dX6_needCarver_1 : decode cX6_needCarver 1 = .ok (.iconst 0, 1) := by decide +kernel
theorem dX6_needCarver_2 : decode cX6_needCarver 2 = .ok (.iconst 2, 1) := by decide +kernel
theorem dX6_needCarver_3 : decode cX6_needCarver 3 = .ok (.invokestatic 98, 3) := by decide +kernel
theorem dX6_needCarver_6 : decode cX6_needCarver 6 = .ok (.return_, 1) := by decide +kernel
theorem dX6_needFeast_0 : decode cX6_needFeast 0 = .ok (.iload_n 1, 1) := by decide +kernel
theorem dX6_needFeast_1 : decode cX6_needFeast 1 = .ok (.ifCond .lt 14, 3) := by decide +kernel
theorem dX6_needFeast_4 : decode cX6_needFeast 4 = .ok (.iload_n 1, 1) := by decide +kernel
theorem dX6_needFeast_5 : decode cX6_needFeast 5 = .ok (.aload_n 0, 1) := by decide +kernel
theorem dX6_needFeast_6 : decode cX6_needFeast 6 = .ok (.getfield 12, 3) := by decide +kernel
theorem dX6_needFeast_9 : decode cX6_needFeast 9 = .ok (.getfield 87, 3) := by decide +kernel
theorem dX6_needFeast_12 : decode cX6_needFeast 12 = .ok (.if_icmp .lt 13, 3) := by decide +kernel
theorem dX6_needFeast_15 : decode cX6_needFeast 15 = .ok (.new 245, 3) := by decide +kernel
theorem dX6_needFeast_18 : decode cX6_needFeast 18 = .ok (.dup, 1) := by decide +kernel
theorem dX6_needFeast_19 : decode cX6_needFeast 19 = .ok (.ldc 247, 2) := by decide +kernel
theorem dX6_needFeast_21 : decode cX6_needFeast 21 = .ok (.invokespecial 249, 3) := by decide +kernel
theorem dX6_needFeast_24 : decode cX6_needFeast 24 = .ok (.athrow, 1) := by decide +kernel
theorem dX6_needFeast_25 : decode cX6_needFeast 25 = .ok (.return_, 1) := by decide +kernel
theorem dX6_needStick_0 : decode cX6_needStick 0 = .ok (.iload_n 1, 1) := by decide +kernel
theorem dX6_needStick_1 : decode cX6_needStick 1 = .ok (.ifCond .lt 14, 3) := by decide +kernel
theorem dX6_needStick_4 : decode cX6_needStick 4 = .ok (.iload_n 1, 1) := by decide +kernel
theorem dX6_needStick_5 : decode cX6_needStick 5 = .ok (.aload_n 0, 1) := by decide +kernel
theorem dX6_needStick_6 : decode cX6_needStick 6 = .ok (.getfield 12, 3) := by decide +kernel
theorem dX6_needStick_9 : decode cX6_needStick 9 = .ok (.getfield 236, 3) := by decide +kernel
theorem dX6_needStick_12 : decode cX6_needStick 12 = .ok (.if_icmp .lt 13, 3) := by decide +kernel
theorem dX6_needStick_15 : decode cX6_needStick 15 = .ok (.new 245, 3) := by decide +kernel
theorem dX6_needStick_18 : decode cX6_needStick 18 = .ok (.dup, 1) := by decide +kernel
theorem dX6_needStick_19 : decode cX6_needStick 19 = .ok (.ldc 250, 2) := by decide +kernel
theorem dX6_needStick_21 : decode cX6_needStick 21 = .ok (.invokespecial 249, 3) := by decide +kernel
theorem dX6_needStick_24 : decode cX6_needStick 24 = .ok (.athrow, 1) := by decide +kernel
theorem dX6_needStick_25 : decode cX6_needStick 25 = .ok (.return_, 1) := by decide +kernel
theorem dX6_isLeap_0 : decode cX6_isLeap 0 = .ok (.iload_n 0, 1) := by decide +kernel
theorem dX6_isLeap_1 : decode cX6_isLeap 1 = .ok (.iconst 4, 1) := by decide +kernel
theorem dX6_isLeap_2 : decode cX6_isLeap 2 = .ok (.irem, 1) := by decide +kernel
theorem dX6_isLeap_3 : decode cX6_isLeap 3 = .ok (.ifCond .ne 7, 3) := by decide +kernel
theorem dX6_isLeap_6 : decode cX6_isLeap 6 = .ok (.iconst 1, 1) := by decide +kernel
theorem dX6_isLeap_7 : decode cX6_isLeap 7 = .ok (.goto 4, 3) := by decide +kernel
theorem dX6_isLeap_10 : decode cX6_isLeap 10 = .ok (.iconst 0, 1) := by decide +kernel
theorem dX6_isLeap_11 : decode cX6_isLeap 11 = .ok (.ireturn, 1) := by decide +kernel
theorem dX6_daysIn_0 : decode cX6_daysIn 0 = .ok (.iload_n 0, 1) := by decide +kernel
theorem dX6_daysIn_1 : decode cX6_daysIn 1 = .ok (.invokestatic 252, 3) := by decide +kernel
theorem dX6_daysIn_4 : decode cX6_daysIn 4 = .ok (.ifCond .eq 9, 3) := by decide +kernel
theorem dX6_daysIn_7 : decode cX6_daysIn 7 = .ok (.sipush 366, 3) := by decide +kernel
theorem dX6_daysIn_10 : decode cX6_daysIn 10 = .ok (.goto 6, 3) := by decide +kernel
theorem dX6_daysIn_13 : decode cX6_daysIn 13 = .ok (.sipush 365, 3) := by decide +kernel
theorem dX6_daysIn_16 : decode cX6_daysIn 16 = .ok (.ireturn, 1) := by decide +kernel
theorem dX6_newYearWeekday_0 : decode cX6_newYearWeekday 0 = .ok (.iload_n 0, 1) := by decide +kernel
theorem dX6_newYearWeekday_1 : decode cX6_newYearWeekday 1 = .ok (.iconst 3, 1) := by decide +kernel
theorem dX6_newYearWeekday_2 : decode cX6_newYearWeekday 2 = .ok (.iadd, 1) := by decide +kernel
theorem dX6_newYearWeekday_3 : decode cX6_newYearWeekday 3 = .ok (.iconst 4, 1) := by decide +kernel
theorem dX6_newYearWeekday_4 : decode cX6_newYearWeekday 4 = .ok (.idiv, 1) := by decide +kernel
theorem dX6_newYearWeekday_5 : decode cX6_newYearWeekday 5 = .ok (.istore_n 1, 1) := by decide +kernel
theorem dX6_newYearWeekday_6 : decode cX6_newYearWeekday 6 = .ok (.sipush 365, 3) := by decide +kernel
theorem dX6_newYearWeekday_9 : decode cX6_newYearWeekday 9 = .ok (.iload_n 0, 1) := by decide +kernel
theorem dX6_newYearWeekday_10 : decode cX6_newYearWeekday 10 = .ok (.imul, 1) := by decide +kernel
theorem dX6_newYearWeekday_11 : decode cX6_newYearWeekday 11 = .ok (.iload_n 1, 1) := by decide +kernel
theorem dX6_newYearWeekday_12 : decode cX6_newYearWeekday 12 = .ok (.iadd, 1) := by decide +kernel
theorem dX6_newYearWeekday_13 : decode cX6_newYearWeekday 13 = .ok (.bipush 7, 2) := by decide +kernel
theorem dX6_newYearWeekday_15 : decode cX6_newYearWeekday 15 = .ok (.irem, 1) := by decide +kernel
theorem dX6_newYearWeekday_16 : decode cX6_newYearWeekday 16 = .ok (.ireturn, 1) := by decide +kernel
theorem dX6_moonShift_0 : decode cX6_moonShift 0 = .ok (.iload_n 2, 1) := by decide +kernel
theorem dX6_moonShift_1 : decode cX6_moonShift 1 = .ok (.ifCond .le 9, 3) := by decide +kernel
theorem dX6_moonShift_4 : decode cX6_moonShift 4 = .ok (.iload_n 0, 1) := by decide +kernel
theorem dX6_moonShift_5 : decode cX6_moonShift 5 = .ok (.iload_n 2, 1) := by decide +kernel
theorem dX6_moonShift_6 : decode cX6_moonShift 6 = .ok (.idiv, 1) := by decide +kernel
theorem dX6_moonShift_7 : decode cX6_moonShift 7 = .ok (.goto 4, 3) := by decide +kernel
theorem dX6_moonShift_10 : decode cX6_moonShift 10 = .ok (.iconst 0, 1) := by decide +kernel
theorem dX6_moonShift_11 : decode cX6_moonShift 11 = .ok (.istore_n 3, 1) := by decide +kernel
theorem dX6_moonShift_12 : decode cX6_moonShift 12 = .ok (.bipush 11, 2) := by decide +kernel
theorem dX6_moonShift_14 : decode cX6_moonShift 14 = .ok (.iload_n 0, 1) := by decide +kernel
theorem dX6_moonShift_15 : decode cX6_moonShift 15 = .ok (.bipush 19, 2) := by decide +kernel
theorem dX6_moonShift_17 : decode cX6_moonShift 17 = .ok (.irem, 1) := by decide +kernel
theorem dX6_moonShift_18 : decode cX6_moonShift 18 = .ok (.imul, 1) := by decide +kernel
theorem dX6_moonShift_19 : decode cX6_moonShift 19 = .ok (.iload_n 3, 1) := by decide +kernel
theorem dX6_moonShift_20 : decode cX6_moonShift 20 = .ok (.iadd, 1) := by decide +kernel
theorem dX6_moonShift_21 : decode cX6_moonShift 21 = .ok (.iload_n 1, 1) := by decide +kernel
theorem dX6_moonShift_22 : decode cX6_moonShift 22 = .ok (.iadd, 1) := by decide +kernel
theorem dX6_moonShift_23 : decode cX6_moonShift 23 = .ok (.iconst 5, 1) := by decide +kernel
theorem dX6_moonShift_24 : decode cX6_moonShift 24 = .ok (.iadd, 1) := by decide +kernel
theorem dX6_moonShift_25 : decode cX6_moonShift 25 = .ok (.ireturn, 1) := by decide +kernel
theorem dX6_moonAge_0 : decode cX6_moonAge 0 = .ok (.iload_n 0, 1) := by decide +kernel
theorem dX6_moonAge_1 : decode cX6_moonAge 1 = .ok (.iload_n 1, 1) := by decide +kernel
theorem dX6_moonAge_2 : decode cX6_moonAge 2 = .ok (.iadd, 1) := by decide +kernel
theorem dX6_moonAge_3 : decode cX6_moonAge 3 = .ok (.iload_n 1, 1) := by decide +kernel
theorem dX6_moonAge_4 : decode cX6_moonAge 4 = .ok (.bipush 59, 2) := by decide +kernel
theorem dX6_moonAge_6 : decode cX6_moonAge 6 = .ok (.idiv, 1) := by decide +kernel
theorem dX6_moonAge_7 : decode cX6_moonAge 7 = .ok (.iadd, 1) := by decide +kernel
theorem dX6_moonAge_8 : decode cX6_moonAge 8 = .ok (.bipush 30, 2) := by decide +kernel
theorem dX6_moonAge_10 : decode cX6_moonAge 10 = .ok (.irem, 1) := by decide +kernel
theorem dX6_moonAge_11 : decode cX6_moonAge 11 = .ok (.ireturn, 1) := by decide +kernel
theorem dX6_signsReadWell_0 : decode cX6_signsReadWell 0 = .ok (.aload_n 0, 1) := by decide +kernel
theorem dX6_signsReadWell_1 : decode cX6_signsReadWell 1 = .ok (.getfield 35, 3) := by decide +kernel
theorem dX6_signsReadWell_4 : decode cX6_signsReadWell 4 = .ok (.invokevirtual 256, 3) := by decide +kernel
theorem dX6_signsReadWell_7 : decode cX6_signsReadWell 7 = .ok (.iconst 0, 1) := by decide +kernel
theorem dX6_signsReadWell_8 : decode cX6_signsReadWell 8 = .ok (.istore_n 1, 1) := by decide +kernel
theorem dX6_signsReadWell_9 : decode cX6_signsReadWell 9 = .ok (.iload_n 1, 1) := by decide +kernel
theorem dX6_signsReadWell_10 : decode cX6_signsReadWell 10 = .ok (.aload_n 0, 1) := by decide +kernel
theorem dX6_signsReadWell_11 : decode cX6_signsReadWell 11 = .ok (.getfield 64, 3) := by decide +kernel
theorem dX6_signsReadWell_14 : decode cX6_signsReadWell 14 = .ok (.if_icmp .ge 29, 3) := by decide +kernel
theorem dX6_signsReadWell_17 : decode cX6_signsReadWell 17 = .ok (.aload_n 0, 1) := by decide +kernel
theorem dX6_signsReadWell_18 : decode cX6_signsReadWell 18 = .ok (.getfield 35, 3) := by decide +kernel
theorem dX6_signsReadWell_21 : decode cX6_signsReadWell 21 = .ok (.aload_n 0, 1) := by decide +kernel
theorem dX6_signsReadWell_22 : decode cX6_signsReadWell 22 = .ok (.getfield 28, 3) := by decide +kernel
theorem dX6_signsReadWell_25 : decode cX6_signsReadWell 25 = .ok (.iload_n 1, 1) := by decide +kernel
theorem dX6_signsReadWell_26 : decode cX6_signsReadWell 26 = .ok (.invokevirtual 105, 3) := by decide +kernel
theorem dX6_signsReadWell_29 : decode cX6_signsReadWell 29 = .ok (.invokevirtual 259, 3) := by decide +kernel
theorem dX6_signsReadWell_32 : decode cX6_signsReadWell 32 = .ok (.ifCond .ne 5, 3) := by decide +kernel
theorem dX6_signsReadWell_35 : decode cX6_signsReadWell 35 = .ok (.iload_n 1, 1) := by decide +kernel
theorem dX6_signsReadWell_36 : decode cX6_signsReadWell 36 = .ok (.ireturn, 1) := by decide +kernel
theorem dX6_signsReadWell_37 : decode cX6_signsReadWell 37 = .ok (.iinc 1 1, 3) := by decide +kernel
theorem dX6_signsReadWell_40 : decode cX6_signsReadWell 40 = .ok (.goto (-31), 3) := by decide +kernel
theorem dX6_signsReadWell_43 : decode cX6_signsReadWell 43 = .ok (.aload_n 0, 1) := by decide +kernel
theorem dX6_signsReadWell_44 : decode cX6_signsReadWell 44 = .ok (.getfield 64, 3) := by decide +kernel
theorem dX6_signsReadWell_47 : decode cX6_signsReadWell 47 = .ok (.ireturn, 1) := by decide +kernel
theorem dX6_bufferTellsFeasts_0 : decode cX6_bufferTellsFeasts 0 = .ok (.aload_n 0, 1) := by decide +kernel
theorem dX6_bufferTellsFeasts_1 : decode cX6_bufferTellsFeasts 1 = .ok (.invokevirtual 150, 3) := by decide +kernel
theorem dX6_bufferTellsFeasts_4 : decode cX6_bufferTellsFeasts 4 = .ok (.aload_n 0, 1) := by decide +kernel
theorem dX6_bufferTellsFeasts_5 : decode cX6_bufferTellsFeasts 5 = .ok (.getfield 64, 3) := by decide +kernel
theorem dX6_bufferTellsFeasts_8 : decode cX6_bufferTellsFeasts 8 = .ok (.if_icmp .ne 17, 3) := by decide +kernel
theorem dX6_bufferTellsFeasts_11 : decode cX6_bufferTellsFeasts 11 = .ok (.aload_n 0, 1) := by decide +kernel
theorem dX6_bufferTellsFeasts_12 : decode cX6_bufferTellsFeasts 12 = .ok (.getfield 35, 3) := by decide +kernel
theorem dX6_bufferTellsFeasts_15 : decode cX6_bufferTellsFeasts 15 = .ok (.invokevirtual 262, 3) := by decide +kernel
theorem dX6_bufferTellsFeasts_18 : decode cX6_bufferTellsFeasts 18 = .ok (.ifCond .eq 7, 3) := by decide +kernel
theorem dX6_bufferTellsFeasts_21 : decode cX6_bufferTellsFeasts 21 = .ok (.iconst 1, 1) := by decide +kernel
theorem dX6_bufferTellsFeasts_22 : decode cX6_bufferTellsFeasts 22 = .ok (.goto 4, 3) := by decide +kernel
theorem dX6_bufferTellsFeasts_25 : decode cX6_bufferTellsFeasts 25 = .ok (.iconst 0, 1) := by decide +kernel
theorem dX6_bufferTellsFeasts_26 : decode cX6_bufferTellsFeasts 26 = .ok (.ireturn, 1) := by decide +kernel
theorem dX6_addBufferedFeasts_0 : decode cX6_addBufferedFeasts 0 = .ok (.aload_n 0, 1) := by decide +kernel
theorem dX6_addBufferedFeasts_1 : decode cX6_addBufferedFeasts 1 = .ok (.getfield 12, 3) := by decide +kernel
theorem dX6_addBufferedFeasts_4 : decode cX6_addBufferedFeasts 4 = .ok (.getfield 87, 3) := by decide +kernel
theorem dX6_addBufferedFeasts_7 : decode cX6_addBufferedFeasts 7 = .ok (.istore_n 1, 1) := by decide +kernel
theorem dX6_addBufferedFeasts_8 : decode cX6_addBufferedFeasts 8 = .ok (.iconst 1, 1) := by decide +kernel
theorem dX6_addBufferedFeasts_9 : decode cX6_addBufferedFeasts 9 = .ok (.istore_n 2, 1) := by decide +kernel
theorem dX6_addBufferedFeasts_10 : decode cX6_addBufferedFeasts 10 = .ok (.aload_n 0, 1) := by decide +kernel
theorem dX6_addBufferedFeasts_11 : decode cX6_addBufferedFeasts 11 = .ok (.getfield 35, 3) := by decide +kernel
theorem dX6_addBufferedFeasts_14 : decode cX6_addBufferedFeasts 14 = .ok (.invokevirtual 256, 3) := by decide +kernel
theorem dX6_addBufferedFeasts_17 : decode cX6_addBufferedFeasts 17 = .ok (.iconst 0, 1) := by decide +kernel
theorem dX6_addBufferedFeasts_18 : decode cX6_addBufferedFeasts 18 = .ok (.istore_n 3, 1) := by decide +kernel
theorem dX6_addBufferedFeasts_19 : decode cX6_addBufferedFeasts 19 = .ok (.iload_n 3, 1) := by decide +kernel
theorem dX6_addBufferedFeasts_20 : decode cX6_addBufferedFeasts 20 = .ok (.aload_n 0, 1) := by decide +kernel
theorem dX6_addBufferedFeasts_21 : decode cX6_addBufferedFeasts 21 = .ok (.getfield 64, 3) := by decide +kernel
theorem dX6_addBufferedFeasts_24 : decode cX6_addBufferedFeasts 24 = .ok (.if_icmp .ge 45, 3) := by decide +kernel
theorem dX6_addBufferedFeasts_27 : decode cX6_addBufferedFeasts 27 = .ok (.iload_n 2, 1) := by decide +kernel
theorem dX6_addBufferedFeasts_28 : decode cX6_addBufferedFeasts 28 = .ok (.ifCond .eq 41, 3) := by decide +kernel
theorem dX6_addBufferedFeasts_31 : decode cX6_addBufferedFeasts 31 = .ok (.aload_n 0, 1) := by decide +kernel
theorem dX6_addBufferedFeasts_32 : decode cX6_addBufferedFeasts 32 = .ok (.getfield 28, 3) := by decide +kernel
theorem dX6_addBufferedFeasts_35 : decode cX6_addBufferedFeasts 35 = .ok (.iload_n 3, 1) := by decide +kernel
theorem dX6_addBufferedFeasts_36 : decode cX6_addBufferedFeasts 36 = .ok (.invokevirtual 105, 3) := by decide +kernel
theorem dX6_addBufferedFeasts_39 : decode cX6_addBufferedFeasts 39 = .ok (.istore 4, 2) := by decide +kernel
theorem dX6_addBufferedFeasts_41 : decode cX6_addBufferedFeasts 41 = .ok (.iload 4, 2) := by decide +kernel
theorem dX6_addBufferedFeasts_43 : decode cX6_addBufferedFeasts 43 = .ok (.bipush 59, 2) := by decide +kernel
theorem dX6_addBufferedFeasts_45 : decode cX6_addBufferedFeasts 45 = .ok (.if_icmp .ne 8, 3) := by decide +kernel
theorem dX6_addBufferedFeasts_48 : decode cX6_addBufferedFeasts 48 = .ok (.aload_n 0, 1) := by decide +kernel
theorem dX6_addBufferedFeasts_49 : decode cX6_addBufferedFeasts 49 = .ok (.invokevirtual 265, 3) := by decide +kernel
theorem dX6_addBufferedFeasts_52 : decode cX6_addBufferedFeasts 52 = .ok (.istore_n 2, 1) := by decide +kernel
theorem dX6_addBufferedFeasts_53 : decode cX6_addBufferedFeasts 53 = .ok (.aload_n 0, 1) := by decide +kernel
theorem dX6_addBufferedFeasts_54 : decode cX6_addBufferedFeasts 54 = .ok (.getfield 35, 3) := by decide +kernel
theorem dX6_addBufferedFeasts_57 : decode cX6_addBufferedFeasts 57 = .ok (.iload 4, 2) := by decide +kernel
theorem dX6_addBufferedFeasts_59 : decode cX6_addBufferedFeasts 59 = .ok (.invokevirtual 259, 3) := by decide +kernel
theorem dX6_addBufferedFeasts_62 : decode cX6_addBufferedFeasts 62 = .ok (.pop, 1) := by decide +kernel
theorem dX6_addBufferedFeasts_63 : decode cX6_addBufferedFeasts 63 = .ok (.iinc 3 1, 3) := by decide +kernel
theorem dX6_addBufferedFeasts_66 : decode cX6_addBufferedFeasts 66 = .ok (.goto (-47), 3) := by decide +kernel
theorem dX6_addBufferedFeasts_69 : decode cX6_addBufferedFeasts 69 = .ok (.iload_n 2, 1) := by decide +kernel
theorem dX6_addBufferedFeasts_70 : decode cX6_addBufferedFeasts 70 = .ok (.ifCond .eq 8, 3) := by decide +kernel
theorem dX6_addBufferedFeasts_73 : decode cX6_addBufferedFeasts 73 = .ok (.aload_n 0, 1) := by decide +kernel
theorem dX6_addBufferedFeasts_74 : decode cX6_addBufferedFeasts 74 = .ok (.invokevirtual 265, 3) := by decide +kernel
theorem dX6_addBufferedFeasts_77 : decode cX6_addBufferedFeasts 77 = .ok (.pop, 1) := by decide +kernel
theorem dX6_addBufferedFeasts_78 : decode cX6_addBufferedFeasts 78 = .ok (.aload_n 0, 1) := by decide +kernel
theorem dX6_addBufferedFeasts_79 : decode cX6_addBufferedFeasts 79 = .ok (.getfield 12, 3) := by decide +kernel
theorem dX6_addBufferedFeasts_82 : decode cX6_addBufferedFeasts 82 = .ok (.getfield 87, 3) := by decide +kernel
theorem dX6_addBufferedFeasts_85 : decode cX6_addBufferedFeasts 85 = .ok (.iload_n 1, 1) := by decide +kernel
theorem dX6_addBufferedFeasts_86 : decode cX6_addBufferedFeasts 86 = .ok (.isub, 1) := by decide +kernel
theorem dX6_addBufferedFeasts_87 : decode cX6_addBufferedFeasts 87 = .ok (.ireturn, 1) := by decide +kernel
theorem dX6_addReadFeast_0 : decode cX6_addReadFeast 0 = .ok (.aload_n 0, 1) := by decide +kernel
theorem dX6_addReadFeast_1 : decode cX6_addReadFeast 1 = .ok (.getfield 35, 3) := by decide +kernel
theorem dX6_addReadFeast_4 : decode cX6_addReadFeast 4 = .ok (.getfield 268, 3) := by decide +kernel
theorem dX6_addReadFeast_7 : decode cX6_addReadFeast 7 = .ok (.iconst 3, 1) := by decide +kernel
theorem dX6_addReadFeast_8 : decode cX6_addReadFeast 8 = .ok (.if_icmp .ne 24, 3) := by decide +kernel
theorem dX6_addReadFeast_11 : decode cX6_addReadFeast 11 = .ok (.aload_n 0, 1) := by decide +kernel
theorem dX6_addReadFeast_12 : decode cX6_addReadFeast 12 = .ok (.getfield 35, 3) := by decide +kernel
theorem dX6_addReadFeast_15 : decode cX6_addReadFeast 15 = .ok (.getfield 271, 3) := by decide +kernel
theorem dX6_addReadFeast_18 : decode cX6_addReadFeast 18 = .ok (.aload_n 0, 1) := by decide +kernel
theorem dX6_addReadFeast_19 : decode cX6_addReadFeast 19 = .ok (.getfield 12, 3) := by decide +kernel
theorem dX6_addReadFeast_22 : decode cX6_addReadFeast 22 = .ok (.getfield 87, 3) := by decide +kernel
theorem dX6_addReadFeast_25 : decode cX6_addReadFeast 25 = .ok (.if_icmp .lt 7, 3) := by decide +kernel
theorem dX6_addReadFeast_28 : decode cX6_addReadFeast 28 = .ok (.iconst 1, 1) := by decide +kernel
theorem dX6_addReadFeast_29 : decode cX6_addReadFeast 29 = .ok (.goto 4, 3) := by decide +kernel
theorem dX6_addReadFeast_32 : decode cX6_addReadFeast 32 = .ok (.iconst 0, 1) := by decide +kernel
theorem dX6_addReadFeast_33 : decode cX6_addReadFeast 33 = .ok (.istore_n 1, 1) := by decide +kernel
theorem dX6_addReadFeast_34 : decode cX6_addReadFeast 34 = .ok (.aload_n 0, 1) := by decide +kernel
theorem dX6_addReadFeast_35 : decode cX6_addReadFeast 35 = .ok (.getfield 12, 3) := by decide +kernel
theorem dX6_addReadFeast_38 : decode cX6_addReadFeast 38 = .ok (.getfield 87, 3) := by decide +kernel
theorem dX6_addReadFeast_41 : decode cX6_addReadFeast 41 = .ok (.bipush 10, 2) := by decide +kernel
theorem dX6_addReadFeast_43 : decode cX6_addReadFeast 43 = .ok (.if_icmp .ge 7, 3) := by decide +kernel
theorem dX6_addReadFeast_46 : decode cX6_addReadFeast 46 = .ok (.iload_n 1, 1) := by decide +kernel
theorem dX6_addReadFeast_47 : decode cX6_addReadFeast 47 = .ok (.ifCond .eq 5, 3) := by decide +kernel
theorem dX6_addReadFeast_50 : decode cX6_addReadFeast 50 = .ok (.iconst 0, 1) := by decide +kernel
theorem dX6_addReadFeast_51 : decode cX6_addReadFeast 51 = .ok (.ireturn, 1) := by decide +kernel
theorem dX6_addReadFeast_52 : decode cX6_addReadFeast 52 = .ok (.aload_n 0, 1) := by decide +kernel
theorem dX6_addReadFeast_53 : decode cX6_addReadFeast 53 = .ok (.getfield 12, 3) := by decide +kernel
theorem dX6_addReadFeast_56 : decode cX6_addReadFeast 56 = .ok (.aload_n 0, 1) := by decide +kernel
theorem dX6_addReadFeast_57 : decode cX6_addReadFeast 57 = .ok (.getfield 35, 3) := by decide +kernel
theorem dX6_addReadFeast_60 : decode cX6_addReadFeast 60 = .ok (.invokevirtual 274, 3) := by decide +kernel
theorem dX6_addReadFeast_63 : decode cX6_addReadFeast 63 = .ok (.iconst 1, 1) := by decide +kernel
theorem dX6_addReadFeast_64 : decode cX6_addReadFeast 64 = .ok (.ireturn, 1) := by decide +kernel
theorem dX6_lowestFeastOn_0 : decode cX6_lowestFeastOn 0 = .ok (.aload_n 0, 1) := by decide +kernel
theorem dX6_lowestFeastOn_1 : decode cX6_lowestFeastOn 1 = .ok (.getfield 49, 3) := by decide +kernel
theorem dX6_lowestFeastOn_4 : decode cX6_lowestFeastOn 4 = .ok (.aload_n 0, 1) := by decide +kernel
theorem dX6_lowestFeastOn_5 : decode cX6_lowestFeastOn 5 = .ok (.getfield 12, 3) := by decide +kernel
theorem dX6_lowestFeastOn_8 : decode cX6_lowestFeastOn 8 = .ok (.iload_n 1, 1) := by decide +kernel
theorem dX6_lowestFeastOn_9 : decode cX6_lowestFeastOn 9 = .ok (.invokevirtual 187, 3) := by decide +kernel
theorem dX6_lowestFeastOn_12 : decode cX6_lowestFeastOn 12 = .ok (.iconst 0, 1) := by decide +kernel
theorem dX6_lowestFeastOn_13 : decode cX6_lowestFeastOn 13 = .ok (.istore_n 3, 1) := by decide +kernel
theorem dX6_lowestFeastOn_14 : decode cX6_lowestFeastOn 14 = .ok (.iload_n 3, 1) := by decide +kernel
theorem dX6_lowestFeastOn_15 : decode cX6_lowestFeastOn 15 = .ok (.aload_n 0, 1) := by decide +kernel
theorem dX6_lowestFeastOn_16 : decode cX6_lowestFeastOn 16 = .ok (.getfield 12, 3) := by decide +kernel
theorem dX6_lowestFeastOn_19 : decode cX6_lowestFeastOn 19 = .ok (.getfield 87, 3) := by decide +kernel
theorem dX6_lowestFeastOn_22 : decode cX6_lowestFeastOn 22 = .ok (.if_icmp .ge 23, 3) := by decide +kernel
theorem dX6_lowestFeastOn_25 : decode cX6_lowestFeastOn 25 = .ok (.aload_n 0, 1) := by decide +kernel
theorem dX6_lowestFeastOn_26 : decode cX6_lowestFeastOn 26 = .ok (.getfield 49, 3) := by decide +kernel
theorem dX6_lowestFeastOn_29 : decode cX6_lowestFeastOn 29 = .ok (.iload_n 3, 1) := by decide +kernel
theorem dX6_lowestFeastOn_30 : decode cX6_lowestFeastOn 30 = .ok (.invokevirtual 191, 3) := by decide +kernel
theorem dX6_lowestFeastOn_33 : decode cX6_lowestFeastOn 33 = .ok (.iload_n 2, 1) := by decide +kernel
theorem dX6_lowestFeastOn_34 : decode cX6_lowestFeastOn 34 = .ok (.if_icmp .ne 5, 3) := by decide +kernel
theorem dX6_lowestFeastOn_37 : decode cX6_lowestFeastOn 37 = .ok (.iload_n 3, 1) := by decide +kernel
theorem dX6_lowestFeastOn_38 : decode cX6_lowestFeastOn 38 = .ok (.ireturn, 1) := by decide +kernel
theorem dX6_lowestFeastOn_39 : decode cX6_lowestFeastOn 39 = .ok (.iinc 3 1, 3) := by decide +kernel
theorem dX6_lowestFeastOn_42 : decode cX6_lowestFeastOn 42 = .ok (.goto (-28), 3) := by decide +kernel
theorem dX6_lowestFeastOn_45 : decode cX6_lowestFeastOn 45 = .ok (.iconst (-1), 1) := by decide +kernel
theorem dX6_lowestFeastOn_46 : decode cX6_lowestFeastOn 46 = .ok (.ireturn, 1) := by decide +kernel
theorem dX6_feastProperty_0 : decode cX6_feastProperty 0 = .ok (.iload_n 2, 1) := by decide +kernel
theorem dX6_feastProperty_1 : decode cX6_feastProperty 1 = .ok (.tableswitch 95 0 2 #[27, 39, 51], 27) := by decide +kernel
theorem dX6_feastProperty_28 : decode cX6_feastProperty 28 = .ok (.aload_n 0, 1) := by decide +kernel
theorem dX6_feastProperty_29 : decode cX6_feastProperty 29 = .ok (.getfield 12, 3) := by decide +kernel
theorem dX6_feastProperty_32 : decode cX6_feastProperty 32 = .ok (.getfield 278, 3) := by decide +kernel
theorem dX6_feastProperty_35 : decode cX6_feastProperty 35 = .ok (.iload_n 1, 1) := by decide +kernel
theorem dX6_feastProperty_36 : decode cX6_feastProperty 36 = .ok (.invokevirtual 105, 3) := by decide +kernel
theorem dX6_feastProperty_39 : decode cX6_feastProperty 39 = .ok (.ireturn, 1) := by decide +kernel
theorem dX6_feastProperty_40 : decode cX6_feastProperty 40 = .ok (.aload_n 0, 1) := by decide +kernel
theorem dX6_feastProperty_41 : decode cX6_feastProperty 41 = .ok (.getfield 12, 3) := by decide +kernel
theorem dX6_feastProperty_44 : decode cX6_feastProperty 44 = .ok (.getfield 102, 3) := by decide +kernel
theorem dX6_feastProperty_47 : decode cX6_feastProperty 47 = .ok (.iload_n 1, 1) := by decide +kernel
theorem dX6_feastProperty_48 : decode cX6_feastProperty 48 = .ok (.invokevirtual 105, 3) := by decide +kernel
theorem dX6_feastProperty_51 : decode cX6_feastProperty 51 = .ok (.ireturn, 1) := by decide +kernel
theorem dX6_feastProperty_52 : decode cX6_feastProperty 52 = .ok (.aload_n 0, 1) := by decide +kernel
theorem dX6_feastProperty_53 : decode cX6_feastProperty 53 = .ok (.getfield 12, 3) := by decide +kernel
theorem dX6_feastProperty_56 : decode cX6_feastProperty 56 = .ok (.getfield 278, 3) := by decide +kernel
theorem dX6_feastProperty_59 : decode cX6_feastProperty 59 = .ok (.iload_n 1, 1) := by decide +kernel
theorem dX6_feastProperty_60 : decode cX6_feastProperty 60 = .ok (.invokevirtual 105, 3) := by decide +kernel
theorem dX6_feastProperty_63 : decode cX6_feastProperty 63 = .ok (.iconst 3, 1) := by decide +kernel
theorem dX6_feastProperty_64 : decode cX6_feastProperty 64 = .ok (.if_icmp .ne 20, 3) := by decide +kernel
theorem dX6_feastProperty_67 : decode cX6_feastProperty 67 = .ok (.aload_n 0, 1) := by decide +kernel
theorem dX6_feastProperty_68 : decode cX6_feastProperty 68 = .ok (.getfield 12, 3) := by decide +kernel
theorem dX6_feastProperty_71 : decode cX6_feastProperty 71 = .ok (.getfield 281, 3) := by decide +kernel
theorem dX6_feastProperty_74 : decode cX6_feastProperty 74 = .ok (.iload_n 1, 1) := by decide +kernel
theorem dX6_feastProperty_75 : decode cX6_feastProperty 75 = .ok (.invokevirtual 105, 3) := by decide +kernel
theorem dX6_feastProperty_78 : decode cX6_feastProperty 78 = .ok (.bipush 90, 2) := by decide +kernel
theorem dX6_feastProperty_80 : decode cX6_feastProperty 80 = .ok (.iadd, 1) := by decide +kernel
theorem dX6_feastProperty_81 : decode cX6_feastProperty 81 = .ok (.goto 14, 3) := by decide +kernel
theorem dX6_feastProperty_84 : decode cX6_feastProperty 84 = .ok (.aload_n 0, 1) := by decide +kernel
theorem dX6_feastProperty_85 : decode cX6_feastProperty 85 = .ok (.getfield 12, 3) := by decide +kernel
theorem dX6_feastProperty_88 : decode cX6_feastProperty 88 = .ok (.getfield 281, 3) := by decide +kernel
theorem dX6_feastProperty_91 : decode cX6_feastProperty 91 = .ok (.iload_n 1, 1) := by decide +kernel
theorem dX6_feastProperty_92 : decode cX6_feastProperty 92 = .ok (.invokevirtual 105, 3) := by decide +kernel
theorem dX6_feastProperty_95 : decode cX6_feastProperty 95 = .ok (.ireturn, 1) := by decide +kernel
theorem dX6_feastProperty_96 : decode cX6_feastProperty 96 = .ok (.aload_n 0, 1) := by decide +kernel
theorem dX6_feastProperty_97 : decode cX6_feastProperty 97 = .ok (.getfield 12, 3) := by decide +kernel
theorem dX6_feastProperty_100 : decode cX6_feastProperty 100 = .ok (.getfield 284, 3) := by decide +kernel
theorem dX6_feastProperty_103 : decode cX6_feastProperty 103 = .ok (.iload_n 1, 1) := by decide +kernel
theorem dX6_feastProperty_104 : decode cX6_feastProperty 104 = .ok (.invokevirtual 105, 3) := by decide +kernel
theorem dX6_feastProperty_107 : decode cX6_feastProperty 107 = .ok (.ireturn, 1) := by decide +kernel
theorem dX6_stickProperty_0 : decode cX6_stickProperty 0 = .ok (.iload_n 2, 1) := by decide +kernel
theorem dX6_stickProperty_1 : decode cX6_stickProperty 1 = .ok (.tableswitch 73 0 3 #[31, 43, 55, 64], 31) := by decide +kernel
theorem dX6_stickProperty_32 : decode cX6_stickProperty 32 = .ok (.aload_n 0, 1) := by decide +kernel
theorem dX6_stickProperty_33 : decode cX6_stickProperty 33 = .ok (.getfield 12, 3) := by decide +kernel
theorem dX6_stickProperty_36 : decode cX6_stickProperty 36 = .ok (.getfield 139, 3) := by decide +kernel
theorem dX6_stickProperty_39 : decode cX6_stickProperty 39 = .ok (.iload_n 1, 1) := by decide +kernel
theorem dX6_stickProperty_40 : decode cX6_stickProperty 40 = .ok (.invokevirtual 105, 3) := by decide +kernel
theorem dX6_stickProperty_43 : decode cX6_stickProperty 43 = .ok (.ireturn, 1) := by decide +kernel
theorem dX6_stickProperty_44 : decode cX6_stickProperty 44 = .ok (.aload_n 0, 1) := by decide +kernel
theorem dX6_stickProperty_45 : decode cX6_stickProperty 45 = .ok (.getfield 12, 3) := by decide +kernel
theorem dX6_stickProperty_48 : decode cX6_stickProperty 48 = .ok (.getfield 287, 3) := by decide +kernel
theorem dX6_stickProperty_51 : decode cX6_stickProperty 51 = .ok (.iload_n 1, 1) := by decide +kernel
theorem dX6_stickProperty_52 : decode cX6_stickProperty 52 = .ok (.invokevirtual 105, 3) := by decide +kernel
theorem dX6_stickProperty_55 : decode cX6_stickProperty 55 = .ok (.ireturn, 1) := by decide +kernel
theorem dX6_stickProperty_56 : decode cX6_stickProperty 56 = .ok (.aload_n 0, 1) := by decide +kernel
theorem dX6_stickProperty_57 : decode cX6_stickProperty 57 = .ok (.getfield 12, 3) := by decide +kernel
theorem dX6_stickProperty_60 : decode cX6_stickProperty 60 = .ok (.iload_n 1, 1) := by decide +kernel
theorem dX6_stickProperty_61 : decode cX6_stickProperty 61 = .ok (.invokevirtual 133, 3) := by decide +kernel
theorem dX6_stickProperty_64 : decode cX6_stickProperty 64 = .ok (.ireturn, 1) := by decide +kernel
theorem dX6_stickProperty_65 : decode cX6_stickProperty 65 = .ok (.aload_n 0, 1) := by decide +kernel
theorem dX6_stickProperty_66 : decode cX6_stickProperty 66 = .ok (.iload_n 1, 1) := by decide +kernel
theorem dX6_stickProperty_67 : decode cX6_stickProperty 67 = .ok (.iload_n 1, 1) := by decide +kernel
theorem dX6_stickProperty_68 : decode cX6_stickProperty 68 = .ok (.iconst 1, 1) := by decide +kernel
theorem dX6_stickProperty_69 : decode cX6_stickProperty 69 = .ok (.iadd, 1) := by decide +kernel
theorem dX6_stickProperty_70 : decode cX6_stickProperty 70 = .ok (.invokevirtual 290, 3) := by decide +kernel
theorem dX6_stickProperty_73 : decode cX6_stickProperty 73 = .ok (.ireturn, 1) := by decide +kernel
theorem dX6_stickProperty_74 : decode cX6_stickProperty 74 = .ok (.aload_n 0, 1) := by decide +kernel
theorem dX6_stickProperty_75 : decode cX6_stickProperty 75 = .ok (.getfield 12, 3) := by decide +kernel
theorem dX6_stickProperty_78 : decode cX6_stickProperty 78 = .ok (.iload_n 1, 1) := by decide +kernel
theorem dX6_stickProperty_79 : decode cX6_stickProperty 79 = .ok (.iload_n 2, 1) := by decide +kernel
theorem dX6_stickProperty_80 : decode cX6_stickProperty 80 = .ok (.iconst 4, 1) := by decide +kernel
theorem dX6_stickProperty_81 : decode cX6_stickProperty 81 = .ok (.isub, 1) := by decide +kernel
theorem dX6_stickProperty_82 : decode cX6_stickProperty 82 = .ok (.invokevirtual 293, 3) := by decide +kernel
theorem dX6_stickProperty_85 : decode cX6_stickProperty 85 = .ok (.ireturn, 1) := by decide +kernel
theorem dX6_numberOf_0 : decode cX6_numberOf 0 = .ok (.iload_n 1, 1) := by decide +kernel
theorem dX6_numberOf_1 : decode cX6_numberOf 1 = .ok (.tableswitch 92 0 7 #[47, 55, 92, 92, 92, 63, 71, 84], 47) := by decide +kernel
theorem dX6_numberOf_48 : decode cX6_numberOf 48 = .ok (.aload_n 0, 1) := by decide +kernel
theorem dX6_numberOf_49 : decode cX6_numberOf 49 = .ok (.getfield 12, 3) := by decide +kernel
theorem dX6_numberOf_52 : decode cX6_numberOf 52 = .ok (.getfield 87, 3) := by decide +kernel
theorem dX6_numberOf_55 : decode cX6_numberOf 55 = .ok (.ireturn, 1) := by decide +kernel
theorem dX6_numberOf_56 : decode cX6_numberOf 56 = .ok (.aload_n 0, 1) := by decide +kernel
theorem dX6_numberOf_57 : decode cX6_numberOf 57 = .ok (.getfield 12, 3) := by decide +kernel
theorem dX6_numberOf_60 : decode cX6_numberOf 60 = .ok (.getfield 236, 3) := by decide +kernel
theorem dX6_numberOf_63 : decode cX6_numberOf 63 = .ok (.ireturn, 1) := by decide +kernel
theorem dX6_numberOf_64 : decode cX6_numberOf 64 = .ok (.aload_n 0, 1) := by decide +kernel
theorem dX6_numberOf_65 : decode cX6_numberOf 65 = .ok (.getfield 12, 3) := by decide +kernel
theorem dX6_numberOf_68 : decode cX6_numberOf 68 = .ok (.getfield 145, 3) := by decide +kernel
theorem dX6_numberOf_71 : decode cX6_numberOf 71 = .ok (.ireturn, 1) := by decide +kernel
theorem dX6_numberOf_72 : decode cX6_numberOf 72 = .ok (.aload_n 0, 1) := by decide +kernel
theorem dX6_numberOf_73 : decode cX6_numberOf 73 = .ok (.iconst 0, 1) := by decide +kernel
theorem dX6_numberOf_74 : decode cX6_numberOf 74 = .ok (.aload_n 0, 1) := by decide +kernel
theorem dX6_numberOf_75 : decode cX6_numberOf 75 = .ok (.getfield 12, 3) := by decide +kernel
theorem dX6_numberOf_78 : decode cX6_numberOf 78 = .ok (.getfield 236, 3) := by decide +kernel
theorem dX6_numberOf_81 : decode cX6_numberOf 81 = .ok (.invokevirtual 290, 3) := by decide +kernel
theorem dX6_numberOf_84 : decode cX6_numberOf 84 = .ok (.ireturn, 1) := by decide +kernel
theorem dX6_numberOf_85 : decode cX6_numberOf 85 = .ok (.aload_n 0, 1) := by decide +kernel
theorem dX6_numberOf_86 : decode cX6_numberOf 86 = .ok (.getfield 19, 3) := by decide +kernel
theorem dX6_numberOf_89 : decode cX6_numberOf 89 = .ok (.invokevirtual 161, 3) := by decide +kernel
theorem dX6_numberOf_92 : decode cX6_numberOf 92 = .ok (.ireturn, 1) := by decide +kernel
theorem dX6_numberOf_93 : decode cX6_numberOf 93 = .ok (.aload_n 0, 1) := by decide +kernel
theorem dX6_numberOf_94 : decode cX6_numberOf 94 = .ok (.getfield 12, 3) := by decide +kernel
theorem dX6_numberOf_97 : decode cX6_numberOf 97 = .ok (.getfield 116, 3) := by decide +kernel
theorem dX6_numberOf_100 : decode cX6_numberOf 100 = .ok (.iload_n 1, 1) := by decide +kernel
theorem dX6_numberOf_101 : decode cX6_numberOf 101 = .ok (.iconst 2, 1) := by decide +kernel
theorem dX6_numberOf_102 : decode cX6_numberOf 102 = .ok (.isub, 1) := by decide +kernel
theorem dX6_numberOf_103 : decode cX6_numberOf 103 = .ok (.invokevirtual 105, 3) := by decide +kernel
theorem dX6_numberOf_106 : decode cX6_numberOf 106 = .ok (.iconst 5, 1) := by decide +kernel
theorem dX6_numberOf_107 : decode cX6_numberOf 107 = .ok (.iadd, 1) := by decide +kernel
theorem dX6_numberOf_108 : decode cX6_numberOf 108 = .ok (.ireturn, 1) := by decide +kernel
theorem dX6_staleFeasts_0 : decode cX6_staleFeasts 0 = .ok (.iconst 0, 1) := by decide +kernel
theorem dX6_staleFeasts_1 : decode cX6_staleFeasts 1 = .ok (.istore_n 3, 1) := by decide +kernel
theorem dX6_staleFeasts_2 : decode cX6_staleFeasts 2 = .ok (.iload_n 1, 1) := by decide +kernel
theorem dX6_staleFeasts_3 : decode cX6_staleFeasts 3 = .ok (.istore 4, 2) := by decide +kernel
theorem dX6_staleFeasts_5 : decode cX6_staleFeasts 5 = .ok (.iload 4, 2) := by decide +kernel
theorem dX6_staleFeasts_7 : decode cX6_staleFeasts 7 = .ok (.iload_n 2, 1) := by decide +kernel
theorem dX6_staleFeasts_8 : decode cX6_staleFeasts 8 = .ok (.if_icmp .ge 137, 3) := by decide +kernel
theorem dX6_staleFeasts_11 : decode cX6_staleFeasts 11 = .ok (.aload_n 0, 1) := by decide +kernel
theorem dX6_staleFeasts_12 : decode cX6_staleFeasts 12 = .ok (.getfield 42, 3) := by decide +kernel
theorem dX6_staleFeasts_15 : decode cX6_staleFeasts 15 = .ok (.aload_n 0, 1) := by decide +kernel
theorem dX6_staleFeasts_16 : decode cX6_staleFeasts 16 = .ok (.getfield 12, 3) := by decide +kernel
theorem dX6_staleFeasts_19 : decode cX6_staleFeasts 19 = .ok (.aload_n 0, 1) := by decide +kernel
theorem dX6_staleFeasts_20 : decode cX6_staleFeasts 20 = .ok (.getfield 12, 3) := by decide +kernel
theorem dX6_staleFeasts_23 : decode cX6_staleFeasts 23 = .ok (.getfield 139, 3) := by decide +kernel
theorem dX6_staleFeasts_26 : decode cX6_staleFeasts 26 = .ok (.iload 4, 2) := by decide +kernel
theorem dX6_staleFeasts_28 : decode cX6_staleFeasts 28 = .ok (.invokevirtual 105, 3) := by decide +kernel
theorem dX6_staleFeasts_31 : decode cX6_staleFeasts 31 = .ok (.aload_n 0, 1) := by decide +kernel
theorem dX6_staleFeasts_32 : decode cX6_staleFeasts 32 = .ok (.getfield 12, 3) := by decide +kernel
theorem dX6_staleFeasts_35 : decode cX6_staleFeasts 35 = .ok (.getfield 116, 3) := by decide +kernel
theorem dX6_staleFeasts_38 : decode cX6_staleFeasts 38 = .ok (.aload_n 0, 1) := by decide +kernel
theorem dX6_staleFeasts_39 : decode cX6_staleFeasts 39 = .ok (.getfield 12, 3) := by decide +kernel
theorem dX6_staleFeasts_42 : decode cX6_staleFeasts 42 = .ok (.getfield 287, 3) := by decide +kernel
theorem dX6_staleFeasts_45 : decode cX6_staleFeasts 45 = .ok (.iload 4, 2) := by decide +kernel
theorem dX6_staleFeasts_47 : decode cX6_staleFeasts 47 = .ok (.invokevirtual 105, 3) := by decide +kernel
theorem dX6_staleFeasts_50 : decode cX6_staleFeasts 50 = .ok (.invokevirtual 105, 3) := by decide +kernel
theorem dX6_staleFeasts_53 : decode cX6_staleFeasts 53 = .ok (.invokevirtual 122, 3) := by decide +kernel
theorem dX6_staleFeasts_56 : decode cX6_staleFeasts 56 = .ok (.aload_n 0, 1) := by decide +kernel
theorem dX6_staleFeasts_57 : decode cX6_staleFeasts 57 = .ok (.getfield 12, 3) := by decide +kernel
theorem dX6_staleFeasts_60 : decode cX6_staleFeasts 60 = .ok (.getfield 296, 3) := by decide +kernel
theorem dX6_staleFeasts_63 : decode cX6_staleFeasts 63 = .ok (.iload 4, 2) := by decide +kernel
theorem dX6_staleFeasts_65 : decode cX6_staleFeasts 65 = .ok (.invokevirtual 105, 3) := by decide +kernel
theorem dX6_staleFeasts_68 : decode cX6_staleFeasts 68 = .ok (.istore 5, 2) := by decide +kernel
theorem dX6_staleFeasts_70 : decode cX6_staleFeasts 70 = .ok (.iconst 0, 1) := by decide +kernel
theorem dX6_staleFeasts_71 : decode cX6_staleFeasts 71 = .ok (.istore 6, 2) := by decide +kernel
theorem dX6_staleFeasts_73 : decode cX6_staleFeasts 73 = .ok (.iload 6, 2) := by decide +kernel
theorem dX6_staleFeasts_75 : decode cX6_staleFeasts 75 = .ok (.iload 5, 2) := by decide +kernel
theorem dX6_staleFeasts_77 : decode cX6_staleFeasts 77 = .ok (.if_icmp .ge 62, 3) := by decide +kernel
theorem dX6_staleFeasts_80 : decode cX6_staleFeasts 80 = .ok (.iload 6, 2) := by decide +kernel
theorem dX6_staleFeasts_82 : decode cX6_staleFeasts 82 = .ok (.aload_n 0, 1) := by decide +kernel
theorem dX6_staleFeasts_83 : decode cX6_staleFeasts 83 = .ok (.getfield 12, 3) := by decide +kernel
theorem dX6_staleFeasts_86 : decode cX6_staleFeasts 86 = .ok (.getfield 87, 3) := by decide +kernel
theorem dX6_staleFeasts_89 : decode cX6_staleFeasts 89 = .ok (.if_icmp .lt 7, 3) := by decide +kernel
theorem dX6_staleFeasts_92 : decode cX6_staleFeasts 92 = .ok (.iconst 1, 1) := by decide +kernel
theorem dX6_staleFeasts_93 : decode cX6_staleFeasts 93 = .ok (.goto 4, 3) := by decide +kernel
theorem dX6_staleFeasts_96 : decode cX6_staleFeasts 96 = .ok (.iconst 0, 1) := by decide +kernel
theorem dX6_staleFeasts_97 : decode cX6_staleFeasts 97 = .ok (.istore 7, 2) := by decide +kernel
theorem dX6_staleFeasts_99 : decode cX6_staleFeasts 99 = .ok (.iload 7, 2) := by decide +kernel
theorem dX6_staleFeasts_101 : decode cX6_staleFeasts 101 = .ok (.ifCond .ne 29, 3) := by decide +kernel
theorem dX6_staleFeasts_104 : decode cX6_staleFeasts 104 = .ok (.aload_n 0, 1) := by decide +kernel
theorem dX6_staleFeasts_105 : decode cX6_staleFeasts 105 = .ok (.getfield 42, 3) := by decide +kernel
theorem dX6_staleFeasts_108 : decode cX6_staleFeasts 108 = .ok (.getfield 126, 3) := by decide +kernel
theorem dX6_staleFeasts_111 : decode cX6_staleFeasts 111 = .ok (.iload 6, 2) := by decide +kernel
theorem dX6_staleFeasts_113 : decode cX6_staleFeasts 113 = .ok (.invokevirtual 105, 3) := by decide +kernel
theorem dX6_staleFeasts_116 : decode cX6_staleFeasts 116 = .ok (.aload_n 0, 1) := by decide +kernel
theorem dX6_staleFeasts_117 : decode cX6_staleFeasts 117 = .ok (.getfield 12, 3) := by decide +kernel
theorem dX6_staleFeasts_120 : decode cX6_staleFeasts 120 = .ok (.iload 4, 2) := by decide +kernel
theorem dX6_staleFeasts_122 : decode cX6_staleFeasts 122 = .ok (.iload 6, 2) := by decide +kernel
theorem dX6_staleFeasts_124 : decode cX6_staleFeasts 124 = .ok (.invokevirtual 293, 3) := by decide +kernel
theorem dX6_staleFeasts_127 : decode cX6_staleFeasts 127 = .ok (.if_icmp .eq 6, 3) := by decide +kernel
theorem dX6_staleFeasts_130 : decode cX6_staleFeasts 130 = .ok (.iinc 3 1, 3) := by decide +kernel
theorem dX6_staleFeasts_133 : decode cX6_staleFeasts 133 = .ok (.iinc 6 1, 3) := by decide +kernel
theorem dX6_staleFeasts_136 : decode cX6_staleFeasts 136 = .ok (.goto (-63), 3) := by decide +kernel
theorem dX6_staleFeasts_139 : decode cX6_staleFeasts 139 = .ok (.iinc 4 1, 3) := by decide +kernel
theorem dX6_staleFeasts_142 : decode cX6_staleFeasts 142 = .ok (.goto (-137), 3) := by decide +kernel
theorem dX6_staleFeasts_145 : decode cX6_staleFeasts 145 = .ok (.iload_n 3, 1) := by decide +kernel
theorem dX6_staleFeasts_146 : decode cX6_staleFeasts 146 = .ok (.ireturn, 1) := by decide +kernel
theorem dX6_freshPart_0 : decode cX6_freshPart 0 = .ok (.iconst 0, 1) := by decide +kernel
theorem dX6_freshPart_1 : decode cX6_freshPart 1 = .ok (.istore_n 1, 1) := by decide +kernel
theorem dX6_freshPart_2 : decode cX6_freshPart 2 = .ok (.iconst 0, 1) := by decide +kernel
theorem dX6_freshPart_3 : decode cX6_freshPart 3 = .ok (.istore_n 2, 1) := by decide +kernel
theorem dX6_freshPart_4 : decode cX6_freshPart 4 = .ok (.iload_n 2, 1) := by decide +kernel
theorem dX6_freshPart_5 : decode cX6_freshPart 5 = .ok (.aload_n 0, 1) := by decide +kernel
theorem dX6_freshPart_6 : decode cX6_freshPart 6 = .ok (.getfield 12, 3) := by decide +kernel
theorem dX6_freshPart_9 : decode cX6_freshPart 9 = .ok (.getfield 236, 3) := by decide +kernel
theorem dX6_freshPart_12 : decode cX6_freshPart 12 = .ok (.if_icmp .ge 23, 3) := by decide +kernel
theorem dX6_freshPart_15 : decode cX6_freshPart 15 = .ok (.iload_n 1, 1) := by decide +kernel
theorem dX6_freshPart_16 : decode cX6_freshPart 16 = .ok (.aload_n 0, 1) := by decide +kernel
theorem dX6_freshPart_17 : decode cX6_freshPart 17 = .ok (.getfield 12, 3) := by decide +kernel
theorem dX6_freshPart_20 : decode cX6_freshPart 20 = .ok (.getfield 296, 3) := by decide +kernel
theorem dX6_freshPart_23 : decode cX6_freshPart 23 = .ok (.iload_n 2, 1) := by decide +kernel
theorem dX6_freshPart_24 : decode cX6_freshPart 24 = .ok (.invokevirtual 105, 3) := by decide +kernel
theorem dX6_freshPart_27 : decode cX6_freshPart 27 = .ok (.iadd, 1) := by decide +kernel
theorem dX6_freshPart_28 : decode cX6_freshPart 28 = .ok (.istore_n 1, 1) := by decide +kernel
theorem dX6_freshPart_29 : decode cX6_freshPart 29 = .ok (.iinc 2 1, 3) := by decide +kernel
theorem dX6_freshPart_32 : decode cX6_freshPart 32 = .ok (.goto (-28), 3) := by decide +kernel
theorem dX6_freshPart_35 : decode cX6_freshPart 35 = .ok (.iload_n 1, 1) := by decide +kernel
theorem dX6_freshPart_36 : decode cX6_freshPart 36 = .ok (.ifCond .gt 5, 3) := by decide +kernel
theorem dX6_freshPart_39 : decode cX6_freshPart 39 = .ok (.dconst 1, 1) := by decide +kernel
theorem dX6_freshPart_40 : decode cX6_freshPart 40 = .ok (.dreturn, 1) := by decide +kernel
theorem dX6_freshPart_41 : decode cX6_freshPart 41 = .ok (.iload_n 1, 1) := by decide +kernel
theorem dX6_freshPart_42 : decode cX6_freshPart 42 = .ok (.aload_n 0, 1) := by decide +kernel
theorem dX6_freshPart_43 : decode cX6_freshPart 43 = .ok (.iconst 0, 1) := by decide +kernel
theorem dX6_freshPart_44 : decode cX6_freshPart 44 = .ok (.aload_n 0, 1) := by decide +kernel
theorem dX6_freshPart_45 : decode cX6_freshPart 45 = .ok (.getfield 12, 3) := by decide +kernel
theorem dX6_freshPart_48 : decode cX6_freshPart 48 = .ok (.getfield 236, 3) := by decide +kernel
theorem dX6_freshPart_51 : decode cX6_freshPart 51 = .ok (.invokevirtual 290, 3) := by decide +kernel
theorem dX6_freshPart_54 : decode cX6_freshPart 54 = .ok (.isub, 1) := by decide +kernel
theorem dX6_freshPart_55 : decode cX6_freshPart 55 = .ok (.istore_n 2, 1) := by decide +kernel
theorem dX6_freshPart_56 : decode cX6_freshPart 56 = .ok (.iload_n 2, 1) := by decide +kernel
theorem dX6_freshPart_57 : decode cX6_freshPart 57 = .ok (.i2d, 1) := by decide +kernel
theorem dX6_freshPart_58 : decode cX6_freshPart 58 = .ok (.iload_n 1, 1) := by decide +kernel
theorem dX6_freshPart_59 : decode cX6_freshPart 59 = .ok (.i2d, 1) := by decide +kernel
theorem dX6_freshPart_60 : decode cX6_freshPart 60 = .ok (.ddiv, 1) := by decide +kernel
theorem dX6_freshPart_61 : decode cX6_freshPart 61 = .ok (.dreturn, 1) := by decide +kernel
theorem dX6_outermost_0 : decode cX6_outermost 0 = .ok (.iconst (-1), 1) := by decide +kernel
theorem dX6_outermost_1 : decode cX6_outermost 1 = .ok (.istore 5, 2) := by decide +kernel
theorem dX6_outermost_3 : decode cX6_outermost 3 = .ok (.iload_n 2, 1) := by decide +kernel
theorem dX6_outermost_4 : decode cX6_outermost 4 = .ok (.istore 6, 2) := by decide +kernel
theorem dX6_outermost_6 : decode cX6_outermost 6 = .ok (.iload 6, 2) := by decide +kernel
theorem dX6_outermost_8 : decode cX6_outermost 8 = .ok (.iload_n 2, 1) := by decide +kernel
theorem dX6_outermost_9 : decode cX6_outermost 9 = .ok (.iload_n 3, 1) := by decide +kernel
theorem dX6_outermost_10 : decode cX6_outermost 10 = .ok (.iadd, 1) := by decide +kernel
theorem dX6_outermost_11 : decode cX6_outermost 11 = .ok (.if_icmp .ge 78, 3) := by decide +kernel
theorem dX6_outermost_14 : decode cX6_outermost 14 = .ok (.iload 6, 2) := by decide +kernel
theorem dX6_outermost_16 : decode cX6_outermost 16 = .ok (.sipush 999, 3) := by decide +kernel
theorem dX6_outermost_19 : decode cX6_outermost 19 = .ok (.if_icmp .gt 70, 3) := by decide +kernel
theorem dX6_outermost_22 : decode cX6_outermost 22 = .ok (.aload_n 0, 1) := by decide +kernel
theorem dX6_outermost_23 : decode cX6_outermost 23 = .ok (.getfield 49, 3) := by decide +kernel
theorem dX6_outermost_26 : decode cX6_outermost 26 = .ok (.aload_n 0, 1) := by decide +kernel
theorem dX6_outermost_27 : decode cX6_outermost 27 = .ok (.getfield 12, 3) := by decide +kernel
theorem dX6_outermost_30 : decode cX6_outermost 30 = .ok (.iload 6, 2) := by decide +kernel
theorem dX6_outermost_32 : decode cX6_outermost 32 = .ok (.invokevirtual 187, 3) := by decide +kernel
theorem dX6_outermost_35 : decode cX6_outermost 35 = .ok (.aload_n 0, 1) := by decide +kernel
theorem dX6_outermost_36 : decode cX6_outermost 36 = .ok (.getfield 49, 3) := by decide +kernel
theorem dX6_outermost_39 : decode cX6_outermost 39 = .ok (.iload_n 1, 1) := by decide +kernel
theorem dX6_outermost_40 : decode cX6_outermost 40 = .ok (.invokevirtual 191, 3) := by decide +kernel
theorem dX6_outermost_43 : decode cX6_outermost 43 = .ok (.istore 7, 2) := by decide +kernel
theorem dX6_outermost_45 : decode cX6_outermost 45 = .ok (.iload 7, 2) := by decide +kernel
theorem dX6_outermost_47 : decode cX6_outermost 47 = .ok (.iconst (-1), 1) := by decide +kernel
theorem dX6_outermost_48 : decode cX6_outermost 48 = .ok (.if_icmp .eq 35, 3) := by decide +kernel
theorem dX6_outermost_51 : decode cX6_outermost 51 = .ok (.iload 5, 2) := by decide +kernel
theorem dX6_outermost_53 : decode cX6_outermost 53 = .ok (.iconst (-1), 1) := by decide +kernel
theorem dX6_outermost_54 : decode cX6_outermost 54 = .ok (.if_icmp .eq 25, 3) := by decide +kernel
theorem dX6_outermost_57 : decode cX6_outermost 57 = .ok (.iload 4, 2) := by decide +kernel
theorem dX6_outermost_59 : decode cX6_outermost 59 = .ok (.ifCond .eq 13, 3) := by decide +kernel
theorem dX6_outermost_62 : decode cX6_outermost 62 = .ok (.iload 7, 2) := by decide +kernel
theorem dX6_outermost_64 : decode cX6_outermost 64 = .ok (.iload 5, 2) := by decide +kernel
theorem dX6_outermost_66 : decode cX6_outermost 66 = .ok (.if_icmp .le 17, 3) := by decide +kernel
theorem dX6_outermost_69 : decode cX6_outermost 69 = .ok (.goto 10, 3) := by decide +kernel
theorem dX6_outermost_72 : decode cX6_outermost 72 = .ok (.iload 7, 2) := by decide +kernel
theorem dX6_outermost_74 : decode cX6_outermost 74 = .ok (.iload 5, 2) := by decide +kernel
theorem dX6_outermost_76 : decode cX6_outermost 76 = .ok (.if_icmp .ge 7, 3) := by decide +kernel
theorem dX6_outermost_79 : decode cX6_outermost 79 = .ok (.iload 7, 2) := by decide +kernel
theorem dX6_outermost_81 : decode cX6_outermost 81 = .ok (.istore 5, 2) := by decide +kernel
theorem dX6_outermost_83 : decode cX6_outermost 83 = .ok (.iinc 6 1, 3) := by decide +kernel
theorem dX6_outermost_86 : decode cX6_outermost 86 = .ok (.goto (-80), 3) := by decide +kernel
theorem dX6_outermost_89 : decode cX6_outermost 89 = .ok (.iload 5, 2) := by decide +kernel
theorem dX6_outermost_91 : decode cX6_outermost 91 = .ok (.ireturn, 1) := by decide +kernel
theorem dX6_nextAlike_0 : decode cX6_nextAlike 0 = .ok (.aload_n 0, 1) := by decide +kernel
theorem dX6_nextAlike_1 : decode cX6_nextAlike 1 = .ok (.getfield 49, 3) := by decide +kernel
theorem dX6_nextAlike_4 : decode cX6_nextAlike 4 = .ok (.aload_n 0, 1) := by decide +kernel
theorem dX6_nextAlike_5 : decode cX6_nextAlike 5 = .ok (.getfield 12, 3) := by decide +kernel
theorem dX6_nextAlike_8 : decode cX6_nextAlike 8 = .ok (.iload_n 1, 1) := by decide +kernel
theorem dX6_nextAlike_9 : decode cX6_nextAlike 9 = .ok (.invokevirtual 187, 3) := by decide +kernel
theorem dX6_nextAlike_12 : decode cX6_nextAlike 12 = .ok (.iload_n 1, 1) := by decide +kernel
theorem dX6_nextAlike_13 : decode cX6_nextAlike 13 = .ok (.iconst 1, 1) := by decide +kernel
theorem dX6_nextAlike_14 : decode cX6_nextAlike 14 = .ok (.iadd, 1) := by decide +kernel
theorem dX6_nextAlike_15 : decode cX6_nextAlike 15 = .ok (.istore_n 2, 1) := by decide +kernel
theorem dX6_nextAlike_16 : decode cX6_nextAlike 16 = .ok (.iload_n 2, 1) := by decide +kernel
theorem dX6_nextAlike_17 : decode cX6_nextAlike 17 = .ok (.iload_n 1, 1) := by decide +kernel
theorem dX6_nextAlike_18 : decode cX6_nextAlike 18 = .ok (.bipush 100, 2) := by decide +kernel
theorem dX6_nextAlike_20 : decode cX6_nextAlike 20 = .ok (.iadd, 1) := by decide +kernel
theorem dX6_nextAlike_21 : decode cX6_nextAlike 21 = .ok (.if_icmp .gt 73, 3) := by decide +kernel
theorem dX6_nextAlike_24 : decode cX6_nextAlike 24 = .ok (.iload_n 2, 1) := by decide +kernel
theorem dX6_nextAlike_25 : decode cX6_nextAlike 25 = .ok (.sipush 999, 3) := by decide +kernel
theorem dX6_nextAlike_28 : decode cX6_nextAlike 28 = .ok (.if_icmp .gt 66, 3) := by decide +kernel
theorem dX6_nextAlike_31 : decode cX6_nextAlike 31 = .ok (.iload_n 2, 1) := by decide +kernel
theorem dX6_nextAlike_32 : decode cX6_nextAlike 32 = .ok (.invokestatic 164, 3) := by decide +kernel
theorem dX6_nextAlike_35 : decode cX6_nextAlike 35 = .ok (.iload_n 1, 1) := by decide +kernel
theorem dX6_nextAlike_36 : decode cX6_nextAlike 36 = .ok (.invokestatic 164, 3) := by decide +kernel
theorem dX6_nextAlike_39 : decode cX6_nextAlike 39 = .ok (.if_icmp .ne 49, 3) := by decide +kernel
theorem dX6_nextAlike_42 : decode cX6_nextAlike 42 = .ok (.iload_n 2, 1) := by decide +kernel
theorem dX6_nextAlike_43 : decode cX6_nextAlike 43 = .ok (.invokestatic 167, 3) := by decide +kernel
theorem dX6_nextAlike_46 : decode cX6_nextAlike 46 = .ok (.iload_n 1, 1) := by decide +kernel
theorem dX6_nextAlike_47 : decode cX6_nextAlike 47 = .ok (.invokestatic 167, 3) := by decide +kernel
theorem dX6_nextAlike_50 : decode cX6_nextAlike 50 = .ok (.if_icmp .ne 38, 3) := by decide +kernel
theorem dX6_nextAlike_53 : decode cX6_nextAlike 53 = .ok (.aload_n 0, 1) := by decide +kernel
theorem dX6_nextAlike_54 : decode cX6_nextAlike 54 = .ok (.getfield 53, 3) := by decide +kernel
theorem dX6_nextAlike_57 : decode cX6_nextAlike 57 = .ok (.aload_n 0, 1) := by decide +kernel
theorem dX6_nextAlike_58 : decode cX6_nextAlike 58 = .ok (.getfield 12, 3) := by decide +kernel
theorem dX6_nextAlike_61 : decode cX6_nextAlike 61 = .ok (.iload_n 2, 1) := by decide +kernel
theorem dX6_nextAlike_62 : decode cX6_nextAlike 62 = .ok (.invokevirtual 187, 3) := by decide +kernel
theorem dX6_nextAlike_65 : decode cX6_nextAlike 65 = .ok (.aload_n 0, 1) := by decide +kernel
theorem dX6_nextAlike_66 : decode cX6_nextAlike 66 = .ok (.getfield 53, 3) := by decide +kernel
theorem dX6_nextAlike_69 : decode cX6_nextAlike 69 = .ok (.aload_n 0, 1) := by decide +kernel
theorem dX6_nextAlike_70 : decode cX6_nextAlike 70 = .ok (.getfield 49, 3) := by decide +kernel
theorem dX6_nextAlike_73 : decode cX6_nextAlike 73 = .ok (.aload_n 0, 1) := by decide +kernel
theorem dX6_nextAlike_74 : decode cX6_nextAlike 74 = .ok (.getfield 12, 3) := by decide +kernel
theorem dX6_nextAlike_77 : decode cX6_nextAlike 77 = .ok (.getfield 87, 3) := by decide +kernel
theorem dX6_nextAlike_80 : decode cX6_nextAlike 80 = .ok (.invokevirtual 299, 3) := by decide +kernel
theorem dX6_nextAlike_83 : decode cX6_nextAlike 83 = .ok (.ifCond .eq 5, 3) := by decide +kernel
theorem dX6_nextAlike_86 : decode cX6_nextAlike 86 = .ok (.iload_n 2, 1) := by decide +kernel
theorem dX6_nextAlike_87 : decode cX6_nextAlike 87 = .ok (.ireturn, 1) := by decide +kernel
theorem dX6_nextAlike_88 : decode cX6_nextAlike 88 = .ok (.iinc 2 1, 3) := by decide +kernel
theorem dX6_nextAlike_91 : decode cX6_nextAlike 91 = .ok (.goto (-75), 3) := by decide +kernel
theorem dX6_nextAlike_94 : decode cX6_nextAlike 94 = .ok (.iconst (-1), 1) := by decide +kernel
theorem dX6_nextAlike_95 : decode cX6_nextAlike 95 = .ok (.ireturn, 1) := by decide +kernel
theorem dX6_calmestSlip_0 : decode cX6_calmestSlip 0 = .ok (.aload_n 0, 1) := by decide +kernel
theorem dX6_calmestSlip_1 : decode cX6_calmestSlip 1 = .ok (.getfield 49, 3) := by decide +kernel
theorem dX6_calmestSlip_4 : decode cX6_calmestSlip 4 = .ok (.aload_n 0, 1) := by decide +kernel
theorem dX6_calmestSlip_5 : decode cX6_calmestSlip 5 = .ok (.getfield 12, 3) := by decide +kernel
theorem dX6_calmestSlip_8 : decode cX6_calmestSlip 8 = .ok (.iload_n 2, 1) := by decide +kernel
theorem dX6_calmestSlip_9 : decode cX6_calmestSlip 9 = .ok (.invokevirtual 187, 3) := by decide +kernel
theorem dX6_calmestSlip_12 : decode cX6_calmestSlip 12 = .ok (.iconst 0, 1) := by decide +kernel
theorem dX6_calmestSlip_13 : decode cX6_calmestSlip 13 = .ok (.istore_n 3, 1) := by decide +kernel
theorem dX6_calmestSlip_14 : decode cX6_calmestSlip 14 = .ok (.bipush 11, 2) := by decide +kernel
theorem dX6_calmestSlip_16 : decode cX6_calmestSlip 16 = .ok (.istore 4, 2) := by decide +kernel
theorem dX6_calmestSlip_18 : decode cX6_calmestSlip 18 = .ok (.iconst 0, 1) := by decide +kernel
theorem dX6_calmestSlip_19 : decode cX6_calmestSlip 19 = .ok (.istore 5, 2) := by decide +kernel
theorem dX6_calmestSlip_21 : decode cX6_calmestSlip 21 = .ok (.iload 5, 2) := by decide +kernel
theorem dX6_calmestSlip_23 : decode cX6_calmestSlip 23 = .ok (.bipush 10, 2) := by decide +kernel
theorem dX6_calmestSlip_25 : decode cX6_calmestSlip 25 = .ok (.if_icmp .gt 83, 3) := by decide +kernel
theorem dX6_calmestSlip_28 : decode cX6_calmestSlip 28 = .ok (.iload 5, 2) := by decide +kernel
theorem dX6_calmestSlip_30 : decode cX6_calmestSlip 30 = .ok (.iconst 1, 1) := by decide +kernel
theorem dX6_calmestSlip_31 : decode cX6_calmestSlip 31 = .ok (.iadd, 1) := by decide +kernel
theorem dX6_calmestSlip_32 : decode cX6_calmestSlip 32 = .ok (.iconst 2, 1) := by decide +kernel
theorem dX6_calmestSlip_33 : decode cX6_calmestSlip 33 = .ok (.idiv, 1) := by decide +kernel
theorem dX6_calmestSlip_34 : decode cX6_calmestSlip 34 = .ok (.istore 6, 2) := by decide +kernel
theorem dX6_calmestSlip_36 : decode cX6_calmestSlip 36 = .ok (.iload 5, 2) := by decide +kernel
theorem dX6_calmestSlip_38 : decode cX6_calmestSlip 38 = .ok (.iconst 2, 1) := by decide +kernel
theorem dX6_calmestSlip_39 : decode cX6_calmestSlip 39 = .ok (.irem, 1) := by decide +kernel
theorem dX6_calmestSlip_40 : decode cX6_calmestSlip 40 = .ok (.iconst 1, 1) := by decide +kernel
theorem dX6_calmestSlip_41 : decode cX6_calmestSlip 41 = .ok (.if_icmp .ne 9, 3) := by decide +kernel
theorem dX6_calmestSlip_44 : decode cX6_calmestSlip 44 = .ok (.iload 6, 2) := by decide +kernel
theorem dX6_calmestSlip_46 : decode cX6_calmestSlip 46 = .ok (.ineg, 1) := by decide +kernel
theorem dX6_calmestSlip_47 : decode cX6_calmestSlip 47 = .ok (.goto 5, 3) := by decide +kernel
theorem dX6_calmestSlip_50 : decode cX6_calmestSlip 50 = .ok (.iload 6, 2) := by decide +kernel
theorem dX6_calmestSlip_52 : decode cX6_calmestSlip 52 = .ok (.istore 7, 2) := by decide +kernel
theorem dX6_calmestSlip_54 : decode cX6_calmestSlip 54 = .ok (.aload_n 0, 1) := by decide +kernel
theorem dX6_calmestSlip_55 : decode cX6_calmestSlip 55 = .ok (.getfield 49, 3) := by decide +kernel
theorem dX6_calmestSlip_58 : decode cX6_calmestSlip 58 = .ok (.iload_n 1, 1) := by decide +kernel
