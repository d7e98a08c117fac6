theorem dX7_quarrelsOf_9 : decode cX7_quarrelsOf 9 = .ok (.ireturn, 1) := by decide +kernel
theorem dX7_quarrels_0 : decode cX7_quarrels 0 = .ok (.aload_n 0, 1) := by decide +kernel
theorem dX7_quarrels_1 : decode cX7_quarrels 1 = .ok (.iload_n 1, 1) := by decide +kernel
theorem dX7_quarrels_2 : decode cX7_quarrels 2 = .ok (.invokestatic 123, 3) := by decide +kernel
theorem dX7_quarrels_5 : decode cX7_quarrels 5 = .ok (.ifCond .eq 7, 3) := by decide +kernel
theorem dX7_quarrels_8 : decode cX7_quarrels 8 = .ok (.iconst 0, 1) := by decide +kernel
theorem dX7_quarrels_9 : decode cX7_quarrels 9 = .ok (.goto 4, 3) := by decide +kernel
theorem dX7_quarrels_12 : decode cX7_quarrels 12 = .ok (.iconst 1, 1) := by decide +kernel
theorem dX7_quarrels_13 : decode cX7_quarrels 13 = .ok (.invokevirtual 80, 3) := by decide +kernel
theorem dX7_quarrels_16 : decode cX7_quarrels 16 = .ok (.ifCond .eq 11, 3) := by decide +kernel
theorem dX7_quarrels_19 : decode cX7_quarrels 19 = .ok (.aload_n 0, 1) := by decide +kernel
theorem dX7_quarrels_20 : decode cX7_quarrels 20 = .ok (.iload_n 1, 1) := by decide +kernel
theorem dX7_quarrels_21 : decode cX7_quarrels 21 = .ok (.invokevirtual 159, 3) := by decide +kernel
theorem dX7_quarrels_24 : decode cX7_quarrels 24 = .ok (.goto 4, 3) := by decide +kernel
theorem dX7_quarrels_27 : decode cX7_quarrels 27 = .ok (.iconst 0, 1) := by decide +kernel
theorem dX7_quarrels_28 : decode cX7_quarrels 28 = .ok (.ireturn, 1) := by decide +kernel
theorem dX7_staleOf_0 : decode cX7_staleOf 0 = .ok (.aload_n 0, 1) := by decide +kernel
theorem dX7_staleOf_1 : decode cX7_staleOf 1 = .ok (.aload_n 0, 1) := by decide +kernel
theorem dX7_staleOf_2 : decode cX7_staleOf 2 = .ok (.getfield 7, 3) := by decide +kernel
theorem dX7_staleOf_5 : decode cX7_staleOf 5 = .ok (.iload_n 1, 1) := by decide +kernel
theorem dX7_staleOf_6 : decode cX7_staleOf 6 = .ok (.iconst 0, 1) := by decide +kernel
theorem dX7_staleOf_7 : decode cX7_staleOf 7 = .ok (.invokestatic 129, 3) := by decide +kernel
theorem dX7_staleOf_10 : decode cX7_staleOf 10 = .ok (.iaload, 1) := by decide +kernel
theorem dX7_staleOf_11 : decode cX7_staleOf 11 = .ok (.aload_n 0, 1) := by decide +kernel
theorem dX7_staleOf_12 : decode cX7_staleOf 12 = .ok (.getfield 7, 3) := by decide +kernel
theorem dX7_staleOf_15 : decode cX7_staleOf 15 = .ok (.bipush 41, 2) := by decide +kernel
theorem dX7_staleOf_17 : decode cX7_staleOf 17 = .ok (.aload_n 0, 1) := by decide +kernel
theorem dX7_staleOf_18 : decode cX7_staleOf 18 = .ok (.getfield 7, 3) := by decide +kernel
theorem dX7_staleOf_21 : decode cX7_staleOf 21 = .ok (.iload_n 1, 1) := by decide +kernel
theorem dX7_staleOf_22 : decode cX7_staleOf 22 = .ok (.iconst 1, 1) := by decide +kernel
theorem dX7_staleOf_23 : decode cX7_staleOf 23 = .ok (.invokestatic 129, 3) := by decide +kernel
theorem dX7_staleOf_26 : decode cX7_staleOf 26 = .ok (.iaload, 1) := by decide +kernel
theorem dX7_staleOf_27 : decode cX7_staleOf 27 = .ok (.iadd, 1) := by decide +kernel
theorem dX7_staleOf_28 : decode cX7_staleOf 28 = .ok (.iaload, 1) := by decide +kernel
theorem dX7_staleOf_29 : decode cX7_staleOf 29 = .ok (.invokevirtual 74, 3) := by decide +kernel
theorem dX7_staleOf_32 : decode cX7_staleOf 32 = .ok (.iconst 0, 1) := by decide +kernel
theorem dX7_staleOf_33 : decode cX7_staleOf 33 = .ok (.istore_n 2, 1) := by decide +kernel
theorem dX7_staleOf_34 : decode cX7_staleOf 34 = .ok (.iconst 0, 1) := by decide +kernel
theorem dX7_staleOf_35 : decode cX7_staleOf 35 = .ok (.istore_n 3, 1) := by decide +kernel
theorem dX7_staleOf_36 : decode cX7_staleOf 36 = .ok (.iload_n 3, 1) := by decide +kernel
theorem dX7_staleOf_37 : decode cX7_staleOf 37 = .ok (.aload_n 0, 1) := by decide +kernel
theorem dX7_staleOf_38 : decode cX7_staleOf 38 = .ok (.getfield 7, 3) := by decide +kernel
theorem dX7_staleOf_41 : decode cX7_staleOf 41 = .ok (.iload_n 1, 1) := by decide +kernel
theorem dX7_staleOf_42 : decode cX7_staleOf 42 = .ok (.iconst 2, 1) := by decide +kernel
theorem dX7_staleOf_43 : decode cX7_staleOf 43 = .ok (.invokestatic 129, 3) := by decide +kernel
theorem dX7_staleOf_46 : decode cX7_staleOf 46 = .ok (.iaload, 1) := by decide +kernel
theorem dX7_staleOf_47 : decode cX7_staleOf 47 = .ok (.if_icmp .ge 48, 3) := by decide +kernel
theorem dX7_staleOf_50 : decode cX7_staleOf 50 = .ok (.iload_n 2, 1) := by decide +kernel
theorem dX7_staleOf_51 : decode cX7_staleOf 51 = .ok (.iload_n 3, 1) := by decide +kernel
theorem dX7_staleOf_52 : decode cX7_staleOf 52 = .ok (.aload_n 0, 1) := by decide +kernel
theorem dX7_staleOf_53 : decode cX7_staleOf 53 = .ok (.getfield 7, 3) := by decide +kernel
theorem dX7_staleOf_56 : decode cX7_staleOf 56 = .ok (.iconst 0, 1) := by decide +kernel
theorem dX7_staleOf_57 : decode cX7_staleOf 57 = .ok (.iaload, 1) := by decide +kernel
theorem dX7_staleOf_58 : decode cX7_staleOf 58 = .ok (.if_icmp .ge 24, 3) := by decide +kernel
theorem dX7_staleOf_61 : decode cX7_staleOf 61 = .ok (.aload_n 0, 1) := by decide +kernel
theorem dX7_staleOf_62 : decode cX7_staleOf 62 = .ok (.getfield 22, 3) := by decide +kernel
theorem dX7_staleOf_65 : decode cX7_staleOf 65 = .ok (.iload_n 3, 1) := by decide +kernel
theorem dX7_staleOf_66 : decode cX7_staleOf 66 = .ok (.iaload, 1) := by decide +kernel
theorem dX7_staleOf_67 : decode cX7_staleOf 67 = .ok (.aload_n 0, 1) := by decide +kernel
theorem dX7_staleOf_68 : decode cX7_staleOf 68 = .ok (.getfield 7, 3) := by decide +kernel
theorem dX7_staleOf_71 : decode cX7_staleOf 71 = .ok (.iload_n 1, 1) := by decide +kernel
theorem dX7_staleOf_72 : decode cX7_staleOf 72 = .ok (.iconst 3, 1) := by decide +kernel
theorem dX7_staleOf_73 : decode cX7_staleOf 73 = .ok (.iload_n 3, 1) := by decide +kernel
theorem dX7_staleOf_74 : decode cX7_staleOf 74 = .ok (.iadd, 1) := by decide +kernel
theorem dX7_staleOf_75 : decode cX7_staleOf 75 = .ok (.invokestatic 129, 3) := by decide +kernel
theorem dX7_staleOf_78 : decode cX7_staleOf 78 = .ok (.iaload, 1) := by decide +kernel
theorem dX7_staleOf_79 : decode cX7_staleOf 79 = .ok (.if_icmp .eq 7, 3) := by decide +kernel
theorem dX7_staleOf_82 : decode cX7_staleOf 82 = .ok (.iconst 1, 1) := by decide +kernel
theorem dX7_staleOf_83 : decode cX7_staleOf 83 = .ok (.goto 4, 3) := by decide +kernel
theorem dX7_staleOf_86 : decode cX7_staleOf 86 = .ok (.iconst 0, 1) := by decide +kernel
theorem dX7_staleOf_87 : decode cX7_staleOf 87 = .ok (.iadd, 1) := by decide +kernel
theorem dX7_staleOf_88 : decode cX7_staleOf 88 = .ok (.istore_n 2, 1) := by decide +kernel
theorem dX7_staleOf_89 : decode cX7_staleOf 89 = .ok (.iinc 3 1, 3) := by decide +kernel
theorem dX7_staleOf_92 : decode cX7_staleOf 92 = .ok (.goto (-56), 3) := by decide +kernel
theorem dX7_staleOf_95 : decode cX7_staleOf 95 = .ok (.iload_n 2, 1) := by decide +kernel
theorem dX7_staleOf_96 : decode cX7_staleOf 96 = .ok (.ireturn, 1) := by decide +kernel
theorem dX7_aboutStick_0 : decode cX7_aboutStick 0 = .ok (.iload_n 2, 1) := by decide +kernel
theorem dX7_aboutStick_1 : decode cX7_aboutStick 1 = .ok (.iconst 3, 1) := by decide +kernel
theorem dX7_aboutStick_2 : decode cX7_aboutStick 2 = .ok (.if_icmp .ne 9, 3) := by decide +kernel
theorem dX7_aboutStick_5 : decode cX7_aboutStick 5 = .ok (.aload_n 0, 1) := by decide +kernel
theorem dX7_aboutStick_6 : decode cX7_aboutStick 6 = .ok (.iload_n 1, 1) := by decide +kernel
theorem dX7_aboutStick_7 : decode cX7_aboutStick 7 = .ok (.invokevirtual 162, 3) := by decide +kernel
theorem dX7_aboutStick_10 : decode cX7_aboutStick 10 = .ok (.ireturn, 1) := by decide +kernel
theorem dX7_aboutStick_11 : decode cX7_aboutStick 11 = .ok (.iconst 0, 1) := by decide +kernel
theorem dX7_aboutStick_12 : decode cX7_aboutStick 12 = .ok (.istore_n 3, 1) := by decide +kernel
theorem dX7_aboutStick_13 : decode cX7_aboutStick 13 = .ok (.iconst 0, 1) := by decide +kernel
theorem dX7_aboutStick_14 : decode cX7_aboutStick 14 = .ok (.istore 4, 2) := by decide +kernel
theorem dX7_aboutStick_16 : decode cX7_aboutStick 16 = .ok (.iload 4, 2) := by decide +kernel
theorem dX7_aboutStick_18 : decode cX7_aboutStick 18 = .ok (.bipush 10, 2) := by decide +kernel
theorem dX7_aboutStick_20 : decode cX7_aboutStick 20 = .ok (.if_icmp .ge 34, 3) := by decide +kernel
theorem dX7_aboutStick_23 : decode cX7_aboutStick 23 = .ok (.iload_n 3, 1) := by decide +kernel
theorem dX7_aboutStick_24 : decode cX7_aboutStick 24 = .ok (.aload_n 0, 1) := by decide +kernel
theorem dX7_aboutStick_25 : decode cX7_aboutStick 25 = .ok (.getfield 7, 3) := by decide +kernel
theorem dX7_aboutStick_28 : decode cX7_aboutStick 28 = .ok (.iload_n 1, 1) := by decide +kernel
theorem dX7_aboutStick_29 : decode cX7_aboutStick 29 = .ok (.iconst 3, 1) := by decide +kernel
theorem dX7_aboutStick_30 : decode cX7_aboutStick 30 = .ok (.iload 4, 2) := by decide +kernel
theorem dX7_aboutStick_32 : decode cX7_aboutStick 32 = .ok (.iadd, 1) := by decide +kernel
theorem dX7_aboutStick_33 : decode cX7_aboutStick 33 = .ok (.invokestatic 129, 3) := by decide +kernel
theorem dX7_aboutStick_36 : decode cX7_aboutStick 36 = .ok (.iaload, 1) := by decide +kernel
theorem dX7_aboutStick_37 : decode cX7_aboutStick 37 = .ok (.iconst (-1), 1) := by decide +kernel
theorem dX7_aboutStick_38 : decode cX7_aboutStick 38 = .ok (.if_icmp .ne 7, 3) := by decide +kernel
theorem dX7_aboutStick_41 : decode cX7_aboutStick 41 = .ok (.iconst 0, 1) := by decide +kernel
theorem dX7_aboutStick_42 : decode cX7_aboutStick 42 = .ok (.goto 4, 3) := by decide +kernel
theorem dX7_aboutStick_45 : decode cX7_aboutStick 45 = .ok (.iconst 1, 1) := by decide +kernel
theorem dX7_aboutStick_46 : decode cX7_aboutStick 46 = .ok (.iadd, 1) := by decide +kernel
theorem dX7_aboutStick_47 : decode cX7_aboutStick 47 = .ok (.istore_n 3, 1) := by decide +kernel
theorem dX7_aboutStick_48 : decode cX7_aboutStick 48 = .ok (.iinc 4 1, 3) := by decide +kernel
theorem dX7_aboutStick_51 : decode cX7_aboutStick 51 = .ok (.goto (-35), 3) := by decide +kernel
theorem dX7_aboutStick_54 : decode cX7_aboutStick 54 = .ok (.iload_n 2, 1) := by decide +kernel
theorem dX7_aboutStick_55 : decode cX7_aboutStick 55 = .ok (.iconst 2, 1) := by decide +kernel
theorem dX7_aboutStick_56 : decode cX7_aboutStick 56 = .ok (.if_icmp .ge 16, 3) := by decide +kernel
theorem dX7_aboutStick_59 : decode cX7_aboutStick 59 = .ok (.aload_n 0, 1) := by decide +kernel
theorem dX7_aboutStick_60 : decode cX7_aboutStick 60 = .ok (.getfield 7, 3) := by decide +kernel
theorem dX7_aboutStick_63 : decode cX7_aboutStick 63 = .ok (.iload_n 1, 1) := by decide +kernel
theorem dX7_aboutStick_64 : decode cX7_aboutStick 64 = .ok (.iload_n 2, 1) := by decide +kernel
theorem dX7_aboutStick_65 : decode cX7_aboutStick 65 = .ok (.invokestatic 129, 3) := by decide +kernel
theorem dX7_aboutStick_68 : decode cX7_aboutStick 68 = .ok (.iaload, 1) := by decide +kernel
theorem dX7_aboutStick_69 : decode cX7_aboutStick 69 = .ok (.goto 24, 3) := by decide +kernel
theorem dX7_aboutStick_72 : decode cX7_aboutStick 72 = .ok (.iload_n 2, 1) := by decide +kernel
theorem dX7_aboutStick_73 : decode cX7_aboutStick 73 = .ok (.iconst 2, 1) := by decide +kernel
theorem dX7_aboutStick_74 : decode cX7_aboutStick 74 = .ok (.if_icmp .ne 7, 3) := by decide +kernel
theorem dX7_aboutStick_77 : decode cX7_aboutStick 77 = .ok (.iload_n 3, 1) := by decide +kernel
theorem dX7_aboutStick_78 : decode cX7_aboutStick 78 = .ok (.goto 15, 3) := by decide +kernel
theorem dX7_aboutStick_81 : decode cX7_aboutStick 81 = .ok (.aload_n 0, 1) := by decide +kernel
theorem dX7_aboutStick_82 : decode cX7_aboutStick 82 = .ok (.getfield 7, 3) := by decide +kernel
theorem dX7_aboutStick_85 : decode cX7_aboutStick 85 = .ok (.iload_n 1, 1) := by decide +kernel
theorem dX7_aboutStick_86 : decode cX7_aboutStick 86 = .ok (.iload_n 2, 1) := by decide +kernel
theorem dX7_aboutStick_87 : decode cX7_aboutStick 87 = .ok (.iconst 1, 1) := by decide +kernel
theorem dX7_aboutStick_88 : decode cX7_aboutStick 88 = .ok (.isub, 1) := by decide +kernel
theorem dX7_aboutStick_89 : decode cX7_aboutStick 89 = .ok (.invokestatic 129, 3) := by decide +kernel
theorem dX7_aboutStick_92 : decode cX7_aboutStick 92 = .ok (.iaload, 1) := by decide +kernel
theorem dX7_aboutStick_93 : decode cX7_aboutStick 93 = .ok (.ireturn, 1) := by decide +kernel
theorem dX7_stick_0 : decode cX7_stick 0 = .ok (.aload_n 0, 1) := by decide +kernel
theorem dX7_stick_1 : decode cX7_stick 1 = .ok (.aload_n 0, 1) := by decide +kernel
theorem dX7_stick_2 : decode cX7_stick 2 = .ok (.iload_n 1, 1) := by decide +kernel
theorem dX7_stick_3 : decode cX7_stick 3 = .ok (.invokevirtual 126, 3) := by decide +kernel
theorem dX7_stick_6 : decode cX7_stick 6 = .ok (.ifCond .ne 7, 3) := by decide +kernel
theorem dX7_stick_9 : decode cX7_stick 9 = .ok (.iconst 1, 1) := by decide +kernel
theorem dX7_stick_10 : decode cX7_stick 10 = .ok (.goto 18, 3) := by decide +kernel
theorem dX7_stick_13 : decode cX7_stick 13 = .ok (.iload_n 2, 1) := by decide +kernel
theorem dX7_stick_14 : decode cX7_stick 14 = .ok (.iconst 0, 1) := by decide +kernel
theorem dX7_stick_15 : decode cX7_stick 15 = .ok (.bipush 13, 2) := by decide +kernel
theorem dX7_stick_17 : decode cX7_stick 17 = .ok (.invokestatic 42, 3) := by decide +kernel
theorem dX7_stick_20 : decode cX7_stick 20 = .ok (.ifCond .ne 7, 3) := by decide +kernel
theorem dX7_stick_23 : decode cX7_stick 23 = .ok (.iconst 2, 1) := by decide +kernel
theorem dX7_stick_24 : decode cX7_stick 24 = .ok (.goto 4, 3) := by decide +kernel
theorem dX7_stick_27 : decode cX7_stick 27 = .ok (.iconst 0, 1) := by decide +kernel
theorem dX7_stick_28 : decode cX7_stick 28 = .ok (.invokevirtual 80, 3) := by decide +kernel
theorem dX7_stick_31 : decode cX7_stick 31 = .ok (.ifCond .eq 12, 3) := by decide +kernel
theorem dX7_stick_34 : decode cX7_stick 34 = .ok (.aload_n 0, 1) := by decide +kernel
theorem dX7_stick_35 : decode cX7_stick 35 = .ok (.iload_n 1, 1) := by decide +kernel
theorem dX7_stick_36 : decode cX7_stick 36 = .ok (.iload_n 2, 1) := by decide +kernel
theorem dX7_stick_37 : decode cX7_stick 37 = .ok (.invokevirtual 165, 3) := by decide +kernel
theorem dX7_stick_40 : decode cX7_stick 40 = .ok (.goto 4, 3) := by decide +kernel
theorem dX7_stick_43 : decode cX7_stick 43 = .ok (.iconst 0, 1) := by decide +kernel
theorem dX7_stick_44 : decode cX7_stick 44 = .ok (.ireturn, 1) := by decide +kernel
theorem dX7_allStale_0 : decode cX7_allStale 0 = .ok (.iconst 0, 1) := by decide +kernel
theorem dX7_allStale_1 : decode cX7_allStale 1 = .ok (.istore_n 1, 1) := by decide +kernel
theorem dX7_allStale_2 : decode cX7_allStale 2 = .ok (.iconst 0, 1) := by decide +kernel
theorem dX7_allStale_3 : decode cX7_allStale 3 = .ok (.istore_n 2, 1) := by decide +kernel
theorem dX7_allStale_4 : decode cX7_allStale 4 = .ok (.iload_n 2, 1) := by decide +kernel
theorem dX7_allStale_5 : decode cX7_allStale 5 = .ok (.aload_n 0, 1) := by decide +kernel
theorem dX7_allStale_6 : decode cX7_allStale 6 = .ok (.getfield 7, 3) := by decide +kernel
theorem dX7_allStale_9 : decode cX7_allStale 9 = .ok (.bipush 45, 2) := by decide +kernel
theorem dX7_allStale_11 : decode cX7_allStale 11 = .ok (.iaload, 1) := by decide +kernel
theorem dX7_allStale_12 : decode cX7_allStale 12 = .ok (.if_icmp .ge 17, 3) := by decide +kernel
theorem dX7_allStale_15 : decode cX7_allStale 15 = .ok (.iload_n 1, 1) := by decide +kernel
theorem dX7_allStale_16 : decode cX7_allStale 16 = .ok (.aload_n 0, 1) := by decide +kernel
theorem dX7_allStale_17 : decode cX7_allStale 17 = .ok (.iload_n 2, 1) := by decide +kernel
theorem dX7_allStale_18 : decode cX7_allStale 18 = .ok (.invokevirtual 162, 3) := by decide +kernel
theorem dX7_allStale_21 : decode cX7_allStale 21 = .ok (.iadd, 1) := by decide +kernel
theorem dX7_allStale_22 : decode cX7_allStale 22 = .ok (.istore_n 1, 1) := by decide +kernel
theorem dX7_allStale_23 : decode cX7_allStale 23 = .ok (.iinc 2 1, 3) := by decide +kernel
theorem dX7_allStale_26 : decode cX7_allStale 26 = .ok (.goto (-22), 3) := by decide +kernel
theorem dX7_allStale_29 : decode cX7_allStale 29 = .ok (.iload_n 1, 1) := by decide +kernel
theorem dX7_allStale_30 : decode cX7_allStale 30 = .ok (.ireturn, 1) := by decide +kernel
theorem dX7_counted_0 : decode cX7_counted 0 = .ok (.iload_n 1, 1) := by decide +kernel
theorem dX7_counted_1 : decode cX7_counted 1 = .ok (.tableswitch 85 0 6 #[43, 50, 58, 58, 58, 72, 80], 43) := by decide +kernel
theorem dX7_counted_44 : decode cX7_counted 44 = .ok (.aload_n 0, 1) := by decide +kernel
theorem dX7_counted_45 : decode cX7_counted 45 = .ok (.getfield 7, 3) := by decide +kernel
theorem dX7_counted_48 : decode cX7_counted 48 = .ok (.iconst 0, 1) := by decide +kernel
theorem dX7_counted_49 : decode cX7_counted 49 = .ok (.iaload, 1) := by decide +kernel
theorem dX7_counted_50 : decode cX7_counted 50 = .ok (.ireturn, 1) := by decide +kernel
theorem dX7_counted_51 : decode cX7_counted 51 = .ok (.aload_n 0, 1) := by decide +kernel
theorem dX7_counted_52 : decode cX7_counted 52 = .ok (.getfield 7, 3) := by decide +kernel
theorem dX7_counted_55 : decode cX7_counted 55 = .ok (.bipush 45, 2) := by decide +kernel
theorem dX7_counted_57 : decode cX7_counted 57 = .ok (.iaload, 1) := by decide +kernel
theorem dX7_counted_58 : decode cX7_counted 58 = .ok (.ireturn, 1) := by decide +kernel
theorem dX7_counted_59 : decode cX7_counted 59 = .ok (.aload_n 0, 1) := by decide +kernel
theorem dX7_counted_60 : decode cX7_counted 60 = .ok (.getfield 7, 3) := by decide +kernel
theorem dX7_counted_63 : decode cX7_counted 63 = .ok (.bipush 41, 2) := by decide +kernel
theorem dX7_counted_65 : decode cX7_counted 65 = .ok (.iload_n 1, 1) := by decide +kernel
theorem dX7_counted_66 : decode cX7_counted 66 = .ok (.iadd, 1) := by decide +kernel
theorem dX7_counted_67 : decode cX7_counted 67 = .ok (.iconst 2, 1) := by decide +kernel
theorem dX7_counted_68 : decode cX7_counted 68 = .ok (.isub, 1) := by decide +kernel
theorem dX7_counted_69 : decode cX7_counted 69 = .ok (.iaload, 1) := by decide +kernel
theorem dX7_counted_70 : decode cX7_counted 70 = .ok (.iconst 5, 1) := by decide +kernel
theorem dX7_counted_71 : decode cX7_counted 71 = .ok (.iadd, 1) := by decide +kernel
theorem dX7_counted_72 : decode cX7_counted 72 = .ok (.ireturn, 1) := by decide +kernel
theorem dX7_counted_73 : decode cX7_counted 73 = .ok (.aload_n 0, 1) := by decide +kernel
theorem dX7_counted_74 : decode cX7_counted 74 = .ok (.getfield 7, 3) := by decide +kernel
theorem dX7_counted_77 : decode cX7_counted 77 = .ok (.bipush 44, 2) := by decide +kernel
theorem dX7_counted_79 : decode cX7_counted 79 = .ok (.iaload, 1) := by decide +kernel
theorem dX7_counted_80 : decode cX7_counted 80 = .ok (.ireturn, 1) := by decide +kernel
theorem dX7_counted_81 : decode cX7_counted 81 = .ok (.aload_n 0, 1) := by decide +kernel
theorem dX7_counted_82 : decode cX7_counted 82 = .ok (.invokevirtual 168, 3) := by decide +kernel
theorem dX7_counted_85 : decode cX7_counted 85 = .ok (.ireturn, 1) := by decide +kernel
theorem dX7_counted_86 : decode cX7_counted 86 = .ok (.aload_n 0, 1) := by decide +kernel
theorem dX7_counted_87 : decode cX7_counted 87 = .ok (.getfield 46, 3) := by decide +kernel
theorem dX7_counted_90 : decode cX7_counted 90 = .ok (.ireturn, 1) := by decide +kernel
theorem dX7_count_0 : decode cX7_count 0 = .ok (.aload_n 0, 1) := by decide +kernel
theorem dX7_count_1 : decode cX7_count 1 = .ok (.iload_n 1, 1) := by decide +kernel
theorem dX7_count_2 : decode cX7_count 2 = .ok (.iconst 0, 1) := by decide +kernel
theorem dX7_count_3 : decode cX7_count 3 = .ok (.bipush 7, 2) := by decide +kernel
theorem dX7_count_5 : decode cX7_count 5 = .ok (.invokestatic 42, 3) := by decide +kernel
theorem dX7_count_8 : decode cX7_count 8 = .ok (.ifCond .eq 7, 3) := by decide +kernel
theorem dX7_count_11 : decode cX7_count 11 = .ok (.iconst 0, 1) := by decide +kernel
theorem dX7_count_12 : decode cX7_count 12 = .ok (.goto 4, 3) := by decide +kernel
theorem dX7_count_15 : decode cX7_count 15 = .ok (.iconst 1, 1) := by decide +kernel
theorem dX7_count_16 : decode cX7_count 16 = .ok (.invokevirtual 80, 3) := by decide +kernel
theorem dX7_count_19 : decode cX7_count 19 = .ok (.ifCond .eq 11, 3) := by decide +kernel
theorem dX7_count_22 : decode cX7_count 22 = .ok (.aload_n 0, 1) := by decide +kernel
theorem dX7_count_23 : decode cX7_count 23 = .ok (.iload_n 1, 1) := by decide +kernel
theorem dX7_count_24 : decode cX7_count 24 = .ok (.invokevirtual 171, 3) := by decide +kernel
theorem dX7_count_27 : decode cX7_count 27 = .ok (.goto 4, 3) := by decide +kernel
theorem dX7_count_30 : decode cX7_count 30 = .ok (.iconst 0, 1) := by decide +kernel
theorem dX7_count_31 : decode cX7_count 31 = .ok (.ireturn, 1) := by decide +kernel
theorem dX7_outermost_0 : decode cX7_outermost 0 = .ok (.iconst (-1), 1) := by decide +kernel
theorem dX7_outermost_1 : decode cX7_outermost 1 = .ok (.istore 5, 2) := by decide +kernel
theorem dX7_outermost_3 : decode cX7_outermost 3 = .ok (.iload_n 2, 1) := by decide +kernel
theorem dX7_outermost_4 : decode cX7_outermost 4 = .ok (.istore 6, 2) := by decide +kernel
theorem dX7_outermost_6 : decode cX7_outermost 6 = .ok (.iload 6, 2) := by decide +kernel
theorem dX7_outermost_8 : decode cX7_outermost 8 = .ok (.iload_n 2, 1) := by decide +kernel
theorem dX7_outermost_9 : decode cX7_outermost 9 = .ok (.iload_n 3, 1) := by decide +kernel
theorem dX7_outermost_10 : decode cX7_outermost 10 = .ok (.iadd, 1) := by decide +kernel
theorem dX7_outermost_11 : decode cX7_outermost 11 = .ok (.if_icmp .ge 81, 3) := by decide +kernel
theorem dX7_outermost_14 : decode cX7_outermost 14 = .ok (.iload 6, 2) := by decide +kernel
theorem dX7_outermost_16 : decode cX7_outermost 16 = .ok (.sipush 999, 3) := by decide +kernel
theorem dX7_outermost_19 : decode cX7_outermost 19 = .ok (.if_icmp .gt 73, 3) := by decide +kernel
theorem dX7_outermost_22 : decode cX7_outermost 22 = .ok (.aload_n 0, 1) := by decide +kernel
theorem dX7_outermost_23 : decode cX7_outermost 23 = .ok (.iload_n 1, 1) := by decide +kernel
theorem dX7_outermost_24 : decode cX7_outermost 24 = .ok (.iload 6, 2) := by decide +kernel
theorem dX7_outermost_26 : decode cX7_outermost 26 = .ok (.invokevirtual 152, 3) := by decide +kernel
theorem dX7_outermost_29 : decode cX7_outermost 29 = .ok (.istore 7, 2) := by decide +kernel
theorem dX7_outermost_31 : decode cX7_outermost 31 = .ok (.iload 7, 2) := by decide +kernel
theorem dX7_outermost_33 : decode cX7_outermost 33 = .ok (.iconst (-1), 1) := by decide +kernel
theorem dX7_outermost_34 : decode cX7_outermost 34 = .ok (.if_icmp .eq 35, 3) := by decide +kernel
theorem dX7_outermost_37 : decode cX7_outermost 37 = .ok (.iload 5, 2) := by decide +kernel
theorem dX7_outermost_39 : decode cX7_outermost 39 = .ok (.iconst (-1), 1) := by decide +kernel
theorem dX7_outermost_40 : decode cX7_outermost 40 = .ok (.if_icmp .eq 25, 3) := by decide +kernel
theorem dX7_outermost_43 : decode cX7_outermost 43 = .ok (.iload 4, 2) := by decide +kernel
theorem dX7_outermost_45 : decode cX7_outermost 45 = .ok (.ifCond .eq 13, 3) := by decide +kernel
theorem dX7_outermost_48 : decode cX7_outermost 48 = .ok (.iload 7, 2) := by decide +kernel
theorem dX7_outermost_50 : decode cX7_outermost 50 = .ok (.iload 5, 2) := by decide +kernel
theorem dX7_outermost_52 : decode cX7_outermost 52 = .ok (.if_icmp .le 17, 3) := by decide +kernel
theorem dX7_outermost_55 : decode cX7_outermost 55 = .ok (.goto 10, 3) := by decide +kernel
theorem dX7_outermost_58 : decode cX7_outermost 58 = .ok (.iload 7, 2) := by decide +kernel
theorem dX7_outermost_60 : decode cX7_outermost 60 = .ok (.iload 5, 2) := by decide +kernel
theorem dX7_outermost_62 : decode cX7_outermost 62 = .ok (.if_icmp .ge 7, 3) := by decide +kernel
theorem dX7_outermost_65 : decode cX7_outermost 65 = .ok (.iconst 1, 1) := by decide +kernel
theorem dX7_outermost_66 : decode cX7_outermost 66 = .ok (.goto 4, 3) := by decide +kernel
theorem dX7_outermost_69 : decode cX7_outermost 69 = .ok (.iconst 0, 1) := by decide +kernel
theorem dX7_outermost_70 : decode cX7_outermost 70 = .ok (.istore 8, 2) := by decide +kernel
theorem dX7_outermost_72 : decode cX7_outermost 72 = .ok (.iload 8, 2) := by decide +kernel
theorem dX7_outermost_74 : decode cX7_outermost 74 = .ok (.ifCond .eq 8, 3) := by decide +kernel
theorem dX7_outermost_77 : decode cX7_outermost 77 = .ok (.iload 7, 2) := by decide +kernel
theorem dX7_outermost_79 : decode cX7_outermost 79 = .ok (.goto 5, 3) := by decide +kernel
theorem dX7_outermost_82 : decode cX7_outermost 82 = .ok (.iload 5, 2) := by decide +kernel
theorem dX7_outermost_84 : decode cX7_outermost 84 = .ok (.istore 5, 2) := by decide +kernel
theorem dX7_outermost_86 : decode cX7_outermost 86 = .ok (.iinc 6 1, 3) := by decide +kernel
theorem dX7_outermost_89 : decode cX7_outermost 89 = .ok (.goto (-83), 3) := by decide +kernel
theorem dX7_outermost_92 : decode cX7_outermost 92 = .ok (.iload 5, 2) := by decide +kernel
theorem dX7_outermost_94 : decode cX7_outermost 94 = .ok (.ireturn, 1) := by decide +kernel
theorem dX7_range_0 : decode cX7_range 0 = .ok (.aload_n 0, 1) := by decide +kernel
theorem dX7_range_1 : decode cX7_range 1 = .ok (.iload_n 1, 1) := by decide +kernel
theorem dX7_range_2 : decode cX7_range 2 = .ok (.invokevirtual 114, 3) := by decide +kernel
theorem dX7_range_5 : decode cX7_range 5 = .ok (.ifCond .ne 7, 3) := by decide +kernel
theorem dX7_range_8 : decode cX7_range 8 = .ok (.iconst 1, 1) := by decide +kernel
theorem dX7_range_9 : decode cX7_range 9 = .ok (.goto 25, 3) := by decide +kernel
theorem dX7_range_12 : decode cX7_range 12 = .ok (.iload_n 2, 1) := by decide +kernel
theorem dX7_range_13 : decode cX7_range 13 = .ok (.invokestatic 123, 3) := by decide +kernel
theorem dX7_range_16 : decode cX7_range 16 = .ok (.ifCond .eq 13, 3) := by decide +kernel
theorem dX7_range_19 : decode cX7_range 19 = .ok (.iload_n 3, 1) := by decide +kernel
theorem dX7_range_20 : decode cX7_range 20 = .ok (.iconst 1, 1) := by decide +kernel
theorem dX7_range_21 : decode cX7_range 21 = .ok (.bipush 40, 2) := by decide +kernel
theorem dX7_range_23 : decode cX7_range 23 = .ok (.invokestatic 42, 3) := by decide +kernel
theorem dX7_range_26 : decode cX7_range 26 = .ok (.ifCond .ne 7, 3) := by decide +kernel
theorem dX7_range_29 : decode cX7_range 29 = .ok (.iconst 2, 1) := by decide +kernel
theorem dX7_range_30 : decode cX7_range 30 = .ok (.goto 4, 3) := by decide +kernel
theorem dX7_range_33 : decode cX7_range 33 = .ok (.iconst 0, 1) := by decide +kernel
theorem dX7_range_34 : decode cX7_range 34 = .ok (.istore 5, 2) := by decide +kernel
theorem dX7_range_36 : decode cX7_range 36 = .ok (.aload_n 0, 1) := by decide +kernel
theorem dX7_range_37 : decode cX7_range 37 = .ok (.iload 5, 2) := by decide +kernel
theorem dX7_range_39 : decode cX7_range 39 = .ok (.invokevirtual 80, 3) := by decide +kernel
theorem dX7_range_42 : decode cX7_range 42 = .ok (.ifCond .eq 15, 3) := by decide +kernel
theorem dX7_range_45 : decode cX7_range 45 = .ok (.aload_n 0, 1) := by decide +kernel
theorem dX7_range_46 : decode cX7_range 46 = .ok (.iload_n 1, 1) := by decide +kernel
theorem dX7_range_47 : decode cX7_range 47 = .ok (.iload_n 2, 1) := by decide +kernel
theorem dX7_range_48 : decode cX7_range 48 = .ok (.iload_n 3, 1) := by decide +kernel
theorem dX7_range_49 : decode cX7_range 49 = .ok (.iload 4, 2) := by decide +kernel
theorem dX7_range_51 : decode cX7_range 51 = .ok (.invokevirtual 174, 3) := by decide +kernel
theorem dX7_range_54 : decode cX7_range 54 = .ok (.goto 4, 3) := by decide +kernel
theorem dX7_range_57 : decode cX7_range 57 = .ok (.iconst 0, 1) := by decide +kernel
theorem dX7_range_58 : decode cX7_range 58 = .ok (.ireturn, 1) := by decide +kernel
theorem dX7_nextAlike_0 : decode cX7_nextAlike 0 = .ok (.aload_n 0, 1) := by decide +kernel
theorem dX7_nextAlike_1 : decode cX7_nextAlike 1 = .ok (.iload_n 1, 1) := by decide +kernel
theorem dX7_nextAlike_2 : decode cX7_nextAlike 2 = .ok (.invokevirtual 132, 3) := by decide +kernel
theorem dX7_nextAlike_5 : decode cX7_nextAlike 5 = .ok (.iconst 0, 1) := by decide +kernel
theorem dX7_nextAlike_6 : decode cX7_nextAlike 6 = .ok (.istore_n 2, 1) := by decide +kernel
theorem dX7_nextAlike_7 : decode cX7_nextAlike 7 = .ok (.iload_n 2, 1) := by decide +kernel
theorem dX7_nextAlike_8 : decode cX7_nextAlike 8 = .ok (.aload_n 0, 1) := by decide +kernel
theorem dX7_nextAlike_9 : decode cX7_nextAlike 9 = .ok (.getfield 7, 3) := by decide +kernel
theorem dX7_nextAlike_12 : decode cX7_nextAlike 12 = .ok (.iconst 0, 1) := by decide +kernel
theorem dX7_nextAlike_13 : decode cX7_nextAlike 13 = .ok (.iaload, 1) := by decide +kernel
theorem dX7_nextAlike_14 : decode cX7_nextAlike 14 = .ok (.if_icmp .ge 20, 3) := by decide +kernel
theorem dX7_nextAlike_17 : decode cX7_nextAlike 17 = .ok (.aload_n 0, 1) := by decide +kernel
theorem dX7_nextAlike_18 : decode cX7_nextAlike 18 = .ok (.getfield 35, 3) := by decide +kernel
theorem dX7_nextAlike_21 : decode cX7_nextAlike 21 = .ok (.iload_n 2, 1) := by decide +kernel
theorem dX7_nextAlike_22 : decode cX7_nextAlike 22 = .ok (.aload_n 0, 1) := by decide +kernel
theorem dX7_nextAlike_23 : decode cX7_nextAlike 23 = .ok (.iload_n 2, 1) := by decide +kernel
theorem dX7_nextAlike_24 : decode cX7_nextAlike 24 = .ok (.invokevirtual 136, 3) := by decide +kernel
theorem dX7_nextAlike_27 : decode cX7_nextAlike 27 = .ok (.iastore, 1) := by decide +kernel
theorem dX7_nextAlike_28 : decode cX7_nextAlike 28 = .ok (.iinc 2 1, 3) := by decide +kernel
theorem dX7_nextAlike_31 : decode cX7_nextAlike 31 = .ok (.goto (-24), 3) := by decide +kernel
theorem dX7_nextAlike_34 : decode cX7_nextAlike 34 = .ok (.iload_n 1, 1) := by decide +kernel
theorem dX7_nextAlike_35 : decode cX7_nextAlike 35 = .ok (.iconst 1, 1) := by decide +kernel
theorem dX7_nextAlike_36 : decode cX7_nextAlike 36 = .ok (.iadd, 1) := by decide +kernel
theorem dX7_nextAlike_37 : decode cX7_nextAlike 37 = .ok (.istore_n 2, 1) := by decide +kernel
theorem dX7_nextAlike_38 : decode cX7_nextAlike 38 = .ok (.iload_n 2, 1) := by decide +kernel
theorem dX7_nextAlike_39 : decode cX7_nextAlike 39 = .ok (.iload_n 1, 1) := by decide +kernel
theorem dX7_nextAlike_40 : decode cX7_nextAlike 40 = .ok (.bipush 100, 2) := by decide +kernel
theorem dX7_nextAlike_42 : decode cX7_nextAlike 42 = .ok (.iadd, 1) := by decide +kernel
theorem dX7_nextAlike_43 : decode cX7_nextAlike 43 = .ok (.if_icmp .gt 99, 3) := by decide +kernel
theorem dX7_nextAlike_46 : decode cX7_nextAlike 46 = .ok (.iload_n 2, 1) := by decide +kernel
theorem dX7_nextAlike_47 : decode cX7_nextAlike 47 = .ok (.sipush 999, 3) := by decide +kernel
theorem dX7_nextAlike_50 : decode cX7_nextAlike 50 = .ok (.if_icmp .gt 92, 3) := by decide +kernel
theorem dX7_nextAlike_53 : decode cX7_nextAlike 53 = .ok (.iload_n 2, 1) := by decide +kernel
theorem dX7_nextAlike_54 : decode cX7_nextAlike 54 = .ok (.invokestatic 49, 3) := by decide +kernel
theorem dX7_nextAlike_57 : decode cX7_nextAlike 57 = .ok (.iload_n 1, 1) := by decide +kernel
theorem dX7_nextAlike_58 : decode cX7_nextAlike 58 = .ok (.invokestatic 49, 3) := by decide +kernel
theorem dX7_nextAlike_61 : decode cX7_nextAlike 61 = .ok (.if_icmp .ne 75, 3) := by decide +kernel
theorem dX7_nextAlike_64 : decode cX7_nextAlike 64 = .ok (.iload_n 2, 1) := by decide +kernel
theorem dX7_nextAlike_65 : decode cX7_nextAlike 65 = .ok (.iconst 0, 1) := by decide +kernel
theorem dX7_nextAlike_66 : decode cX7_nextAlike 66 = .ok (.invokestatic 53, 3) := by decide +kernel
theorem dX7_nextAlike_69 : decode cX7_nextAlike 69 = .ok (.iload_n 1, 1) := by decide +kernel
theorem dX7_nextAlike_70 : decode cX7_nextAlike 70 = .ok (.iconst 0, 1) := by decide +kernel
theorem dX7_nextAlike_71 : decode cX7_nextAlike 71 = .ok (.invokestatic 53, 3) := by decide +kernel
theorem dX7_nextAlike_74 : decode cX7_nextAlike 74 = .ok (.if_icmp .ne 62, 3) := by decide +kernel
theorem dX7_nextAlike_77 : decode cX7_nextAlike 77 = .ok (.aload_n 0, 1) := by decide +kernel
theorem dX7_nextAlike_78 : decode cX7_nextAlike 78 = .ok (.iload_n 2, 1) := by decide +kernel
theorem dX7_nextAlike_79 : decode cX7_nextAlike 79 = .ok (.invokevirtual 132, 3) := by decide +kernel
theorem dX7_nextAlike_82 : decode cX7_nextAlike 82 = .ok (.iconst 1, 1) := by decide +kernel
theorem dX7_nextAlike_83 : decode cX7_nextAlike 83 = .ok (.istore_n 3, 1) := by decide +kernel
theorem dX7_nextAlike_84 : decode cX7_nextAlike 84 = .ok (.iconst 0, 1) := by decide +kernel
theorem dX7_nextAlike_85 : decode cX7_nextAlike 85 = .ok (.istore 4, 2) := by decide +kernel
theorem dX7_nextAlike_87 : decode cX7_nextAlike 87 = .ok (.iload 4, 2) := by decide +kernel
theorem dX7_nextAlike_89 : decode cX7_nextAlike 89 = .ok (.aload_n 0, 1) := by decide +kernel
theorem dX7_nextAlike_90 : decode cX7_nextAlike 90 = .ok (.getfield 7, 3) := by decide +kernel
theorem dX7_nextAlike_93 : decode cX7_nextAlike 93 = .ok (.iconst 0, 1) := by decide +kernel
theorem dX7_nextAlike_94 : decode cX7_nextAlike 94 = .ok (.iaload, 1) := by decide +kernel
theorem dX7_nextAlike_95 : decode cX7_nextAlike 95 = .ok (.if_icmp .ge 35, 3) := by decide +kernel
theorem dX7_nextAlike_98 : decode cX7_nextAlike 98 = .ok (.iload_n 3, 1) := by decide +kernel
theorem dX7_nextAlike_99 : decode cX7_nextAlike 99 = .ok (.ifCond .eq 23, 3) := by decide +kernel
theorem dX7_nextAlike_102 : decode cX7_nextAlike 102 = .ok (.aload_n 0, 1) := by decide +kernel
theorem dX7_nextAlike_103 : decode cX7_nextAlike 103 = .ok (.iload 4, 2) := by decide +kernel
theorem dX7_nextAlike_105 : decode cX7_nextAlike 105 = .ok (.invokevirtual 136, 3) := by decide +kernel
theorem dX7_nextAlike_108 : decode cX7_nextAlike 108 = .ok (.aload_n 0, 1) := by decide +kernel
theorem dX7_nextAlike_109 : decode cX7_nextAlike 109 = .ok (.getfield 35, 3) := by decide +kernel
theorem dX7_nextAlike_112 : decode cX7_nextAlike 112 = .ok (.iload 4, 2) := by decide +kernel
theorem dX7_nextAlike_114 : decode cX7_nextAlike 114 = .ok (.iaload, 1) := by decide +kernel
theorem dX7_nextAlike_115 : decode cX7_nextAlike 115 = .ok (.if_icmp .ne 7, 3) := by decide +kernel
theorem dX7_nextAlike_118 : decode cX7_nextAlike 118 = .ok (.iconst 1, 1) := by decide +kernel
theorem dX7_nextAlike_119 : decode cX7_nextAlike 119 = .ok (.goto 4, 3) := by decide +kernel
theorem dX7_nextAlike_122 : decode cX7_nextAlike 122 = .ok (.iconst 0, 1) := by decide +kernel
theorem dX7_nextAlike_123 : decode cX7_nextAlike 123 = .ok (.istore_n 3, 1) := by decide +kernel
theorem dX7_nextAlike_124 : decode cX7_nextAlike 124 = .ok (.iinc 4 1, 3) := by decide +kernel
theorem dX7_nextAlike_127 : decode cX7_nextAlike 127 = .ok (.goto (-40), 3) := by decide +kernel
theorem dX7_nextAlike_130 : decode cX7_nextAlike 130 = .ok (.iload_n 3, 1) := by decide +kernel
theorem dX7_nextAlike_131 : decode cX7_nextAlike 131 = .ok (.ifCond .eq 5, 3) := by decide +kernel
theorem dX7_nextAlike_134 : decode cX7_nextAlike 134 = .ok (.iload_n 2, 1) := by decide +kernel
theorem dX7_nextAlike_135 : decode cX7_nextAlike 135 = .ok (.ireturn, 1) := by decide +kernel
theorem dX7_nextAlike_136 : decode cX7_nextAlike 136 = .ok (.iinc 2 1, 3) := by decide +kernel
theorem dX7_nextAlike_139 : decode cX7_nextAlike 139 = .ok (.goto (-101), 3) := by decide +kernel
theorem dX7_nextAlike_142 : decode cX7_nextAlike 142 = .ok (.iconst (-1), 1) := by decide +kernel
theorem dX7_nextAlike_143 : decode cX7_nextAlike 143 = .ok (.ireturn, 1) := by decide +kernel
theorem dX7_alike_0 : decode cX7_alike 0 = .ok (.aload_n 0, 1) := by decide +kernel
theorem dX7_alike_1 : decode cX7_alike 1 = .ok (.iload_n 1, 1) := by decide +kernel
theorem dX7_alike_2 : decode cX7_alike 2 = .ok (.invokestatic 123, 3) := by decide +kernel
theorem dX7_alike_5 : decode cX7_alike 5 = .ok (.ifCond .eq 7, 3) := by decide +kernel
theorem dX7_alike_8 : decode cX7_alike 8 = .ok (.iconst 0, 1) := by decide +kernel
theorem dX7_alike_9 : decode cX7_alike 9 = .ok (.goto 4, 3) := by decide +kernel
theorem dX7_alike_12 : decode cX7_alike 12 = .ok (.iconst 1, 1) := by decide +kernel
theorem dX7_alike_13 : decode cX7_alike 13 = .ok (.invokevirtual 80, 3) := by decide +kernel
theorem dX7_alike_16 : decode cX7_alike 16 = .ok (.ifCond .eq 11, 3) := by decide +kernel
theorem dX7_alike_19 : decode cX7_alike 19 = .ok (.aload_n 0, 1) := by decide +kernel
theorem dX7_alike_20 : decode cX7_alike 20 = .ok (.iload_n 1, 1) := by decide +kernel
theorem dX7_alike_21 : decode cX7_alike 21 = .ok (.invokevirtual 177, 3) := by decide +kernel
theorem dX7_alike_24 : decode cX7_alike 24 = .ok (.goto 4, 3) := by decide +kernel
theorem dX7_alike_27 : decode cX7_alike 27 = .ok (.iconst 0, 1) := by decide +kernel
theorem dX7_alike_28 : decode cX7_alike 28 = .ok (.ireturn, 1) := by decide +kernel
theorem dX7_size_0 : decode cX7_size 0 = .ok (.iload_n 0, 1) := by decide +kernel
theorem dX7_size_1 : decode cX7_size 1 = .ok (.ifCond .ge 8, 3) := by decide +kernel
theorem dX7_size_4 : decode cX7_size 4 = .ok (.iload_n 0, 1) := by decide +kernel
theorem dX7_size_5 : decode cX7_size 5 = .ok (.ineg, 1) := by decide +kernel
theorem dX7_size_6 : decode cX7_size 6 = .ok (.goto 4, 3) := by decide +kernel
theorem dX7_size_9 : decode cX7_size 9 = .ok (.iload_n 0, 1) := by decide +kernel
theorem dX7_size_10 : decode cX7_size 10 = .ok (.ireturn, 1) := by decide +kernel
theorem dX7_bestSlip_0 : decode cX7_bestSlip 0 = .ok (.aload_n 0, 1) := by decide +kernel
theorem dX7_bestSlip_1 : decode cX7_bestSlip 1 = .ok (.getfield 7, 3) := by decide +kernel
theorem dX7_bestSlip_4 : decode cX7_bestSlip 4 = .ok (.bipush 41, 2) := by decide +kernel
theorem dX7_bestSlip_6 : decode cX7_bestSlip 6 = .ok (.iload_n 1, 1) := by decide +kernel
theorem dX7_bestSlip_7 : decode cX7_bestSlip 7 = .ok (.iadd, 1) := by decide +kernel
theorem dX7_bestSlip_8 : decode cX7_bestSlip 8 = .ok (.iaload, 1) := by decide +kernel
theorem dX7_bestSlip_9 : decode cX7_bestSlip 9 = .ok (.istore_n 3, 1) := by decide +kernel
theorem dX7_bestSlip_10 : decode cX7_bestSlip 10 = .ok (.bipush (-6), 2) := by decide +kernel
theorem dX7_bestSlip_12 : decode cX7_bestSlip 12 = .ok (.istore 4, 2) := by decide +kernel
theorem dX7_bestSlip_14 : decode cX7_bestSlip 14 = .ok (.iconst 0, 1) := by decide +kernel
theorem dX7_bestSlip_15 : decode cX7_bestSlip 15 = .ok (.istore 5, 2) := by decide +kernel
theorem dX7_bestSlip_17 : decode cX7_bestSlip 17 = .ok (.bipush (-5), 2) := by decide +kernel
theorem dX7_bestSlip_19 : decode cX7_bestSlip 19 = .ok (.istore 6, 2) := by decide +kernel
theorem dX7_bestSlip_21 : decode cX7_bestSlip 21 = .ok (.iload 6, 2) := by decide +kernel
theorem dX7_bestSlip_23 : decode cX7_bestSlip 23 = .ok (.iconst 5, 1) := by decide +kernel
theorem dX7_bestSlip_24 : decode cX7_bestSlip 24 = .ok (.if_icmp .gt 96, 3) := by decide +kernel
theorem dX7_bestSlip_27 : decode cX7_bestSlip 27 = .ok (.aload_n 0, 1) := by decide +kernel
theorem dX7_bestSlip_28 : decode cX7_bestSlip 28 = .ok (.getfield 7, 3) := by decide +kernel
theorem dX7_bestSlip_31 : decode cX7_bestSlip 31 = .ok (.bipush 41, 2) := by decide +kernel
theorem dX7_bestSlip_33 : decode cX7_bestSlip 33 = .ok (.iload_n 1, 1) := by decide +kernel
theorem dX7_bestSlip_34 : decode cX7_bestSlip 34 = .ok (.iadd, 1) := by decide +kernel
theorem dX7_bestSlip_35 : decode cX7_bestSlip 35 = .ok (.iload 6, 2) := by decide +kernel
theorem dX7_bestSlip_37 : decode cX7_bestSlip 37 = .ok (.iastore, 1) := by decide +kernel
theorem dX7_bestSlip_38 : decode cX7_bestSlip 38 = .ok (.aload_n 0, 1) := by decide +kernel
theorem dX7_bestSlip_39 : decode cX7_bestSlip 39 = .ok (.iload_n 2, 1) := by decide +kernel
theorem dX7_bestSlip_40 : decode cX7_bestSlip 40 = .ok (.invokevirtual 159, 3) := by decide +kernel
theorem dX7_bestSlip_43 : decode cX7_bestSlip 43 = .ok (.istore 7, 2) := by decide +kernel
theorem dX7_bestSlip_45 : decode cX7_bestSlip 45 = .ok (.iload 4, 2) := by decide +kernel
theorem dX7_bestSlip_47 : decode cX7_bestSlip 47 = .ok (.bipush (-6), 2) := by decide +kernel
theorem dX7_bestSlip_49 : decode cX7_bestSlip 49 = .ok (.if_icmp .eq 30, 3) := by decide +kernel
theorem dX7_bestSlip_52 : decode cX7_bestSlip 52 = .ok (.iload 7, 2) := by decide +kernel
theorem dX7_bestSlip_54 : decode cX7_bestSlip 54 = .ok (.iload 5, 2) := by decide +kernel
theorem dX7_bestSlip_56 : decode cX7_bestSlip 56 = .ok (.if_icmp .lt 23, 3) := by decide +kernel
theorem dX7_bestSlip_59 : decode cX7_bestSlip 59 = .ok (.iload 7, 2) := by decide +kernel
theorem dX7_bestSlip_61 : decode cX7_bestSlip 61 = .ok (.iload 5, 2) := by decide +kernel
theorem dX7_bestSlip_63 : decode cX7_bestSlip 63 = .ok (.if_icmp .ne 20, 3) := by decide +kernel
theorem dX7_bestSlip_66 : decode cX7_bestSlip 66 = .ok (.iload 6, 2) := by decide +kernel
theorem dX7_bestSlip_68 : decode cX7_bestSlip 68 = .ok (.invokestatic 180, 3) := by decide +kernel
theorem dX7_bestSlip_71 : decode cX7_bestSlip 71 = .ok (.iload 4, 2) := by decide +kernel
theorem dX7_bestSlip_73 : decode cX7_bestSlip 73 = .ok (.invokestatic 180, 3) := by decide +kernel
theorem dX7_bestSlip_76 : decode cX7_bestSlip 76 = .ok (.if_icmp .ge 7, 3) := by decide +kernel
theorem dX7_bestSlip_79 : decode cX7_bestSlip 79 = .ok (.iconst 1, 1) := by decide +kernel
theorem dX7_bestSlip_80 : decode cX7_bestSlip 80 = .ok (.goto 4, 3) := by decide +kernel
theorem dX7_bestSlip_83 : decode cX7_bestSlip 83 = .ok (.iconst 0, 1) := by decide +kernel
theorem dX7_bestSlip_84 : decode cX7_bestSlip 84 = .ok (.istore 8, 2) := by decide +kernel
theorem dX7_bestSlip_86 : decode cX7_bestSlip 86 = .ok (.iload 8, 2) := by decide +kernel
theorem dX7_bestSlip_88 : decode cX7_bestSlip 88 = .ok (.ifCond .eq 8, 3) := by decide +kernel
theorem dX7_bestSlip_91 : decode cX7_bestSlip 91 = .ok (.iload 6, 2) := by decide +kernel
theorem dX7_bestSlip_93 : decode cX7_bestSlip 93 = .ok (.goto 5, 3) := by decide +kernel
theorem dX7_bestSlip_96 : decode cX7_bestSlip 96 = .ok (.iload 4, 2) := by decide +kernel
theorem dX7_bestSlip_98 : decode cX7_bestSlip 98 = .ok (.istore 4, 2) := by decide +kernel
theorem dX7_bestSlip_100 : decode cX7_bestSlip 100 = .ok (.iload 8, 2) := by decide +kernel
theorem dX7_bestSlip_102 : decode cX7_bestSlip 102 = .ok (.ifCond .eq 8, 3) := by decide +kernel
theorem dX7_bestSlip_105 : decode cX7_bestSlip 105 = .ok (.iload 7, 2) := by decide +kernel
theorem dX7_bestSlip_107 : decode cX7_bestSlip 107 = .ok (.goto 5, 3) := by decide +kernel
theorem dX7_bestSlip_110 : decode cX7_bestSlip 110 = .ok (.iload 5, 2) := by decide +kernel
theorem dX7_bestSlip_112 : decode cX7_bestSlip 112 = .ok (.istore 5, 2) := by decide +kernel
theorem dX7_bestSlip_114 : decode cX7_bestSlip 114 = .ok (.iinc 6 1, 3) := by decide +kernel
theorem dX7_bestSlip_117 : decode cX7_bestSlip 117 = .ok (.goto (-96), 3) := by decide +kernel
theorem dX7_bestSlip_120 : decode cX7_bestSlip 120 = .ok (.aload_n 0, 1) := by decide +kernel
theorem dX7_bestSlip_121 : decode cX7_bestSlip 121 = .ok (.getfield 7, 3) := by decide +kernel
theorem dX7_bestSlip_124 : decode cX7_bestSlip 124 = .ok (.bipush 41, 2) := by decide +kernel
theorem dX7_bestSlip_126 : decode cX7_bestSlip 126 = .ok (.iload_n 1, 1) := by decide +kernel
theorem dX7_bestSlip_127 : decode cX7_bestSlip 127 = .ok (.iadd, 1) := by decide +kernel
theorem dX7_bestSlip_128 : decode cX7_bestSlip 128 = .ok (.iload_n 3, 1) := by decide +kernel
theorem dX7_bestSlip_129 : decode cX7_bestSlip 129 = .ok (.iastore, 1) := by decide +kernel
theorem dX7_bestSlip_130 : decode cX7_bestSlip 130 = .ok (.iload 4, 2) := by decide +kernel
theorem dX7_bestSlip_132 : decode cX7_bestSlip 132 = .ok (.iconst 5, 1) := by decide +kernel
theorem dX7_bestSlip_133 : decode cX7_bestSlip 133 = .ok (.iadd, 1) := by decide +kernel
theorem dX7_bestSlip_134 : decode cX7_bestSlip 134 = .ok (.ireturn, 1) := by decide +kernel
theorem dX7_peace_0 : decode cX7_peace 0 = .ok (.aload_n 0, 1) := by decide +kernel
theorem dX7_peace_1 : decode cX7_peace 1 = .ok (.iload_n 1, 1) := by decide +kernel
theorem dX7_peace_2 : decode cX7_peace 2 = .ok (.invokestatic 120, 3) := by decide +kernel
theorem dX7_peace_5 : decode cX7_peace 5 = .ok (.ifCond .eq 14, 3) := by decide +kernel
theorem dX7_peace_8 : decode cX7_peace 8 = .ok (.iload_n 2, 1) := by decide +kernel
theorem dX7_peace_9 : decode cX7_peace 9 = .ok (.invokestatic 123, 3) := by decide +kernel
theorem dX7_peace_12 : decode cX7_peace 12 = .ok (.ifCond .eq 7, 3) := by decide +kernel
theorem dX7_peace_15 : decode cX7_peace 15 = .ok (.iconst 0, 1) := by decide +kernel
theorem dX7_peace_16 : decode cX7_peace 16 = .ok (.goto 4, 3) := by decide +kernel
theorem dX7_peace_19 : decode cX7_peace 19 = .ok (.iconst 1, 1) := by decide +kernel
theorem dX7_peace_20 : decode cX7_peace 20 = .ok (.invokevirtual 80, 3) := by decide +kernel
theorem dX7_peace_23 : decode cX7_peace 23 = .ok (.ifCond .eq 12, 3) := by decide +kernel
theorem dX7_peace_26 : decode cX7_peace 26 = .ok (.aload_n 0, 1) := by decide +kernel
theorem dX7_peace_27 : decode cX7_peace 27 = .ok (.iload_n 1, 1) := by decide +kernel
theorem dX7_peace_28 : decode cX7_peace 28 = .ok (.iload_n 2, 1) := by decide +kernel
theorem dX7_peace_29 : decode cX7_peace 29 = .ok (.invokevirtual 183, 3) := by decide +kernel
theorem dX7_peace_32 : decode cX7_peace 32 = .ok (.goto 4, 3) := by decide +kernel
theorem dX7_peace_35 : decode cX7_peace 35 = .ok (.iconst 0, 1) := by decide +kernel
theorem dX7_peace_36 : decode cX7_peace 36 = .ok (.ireturn, 1) := by decide +kernel
theorem dX7_movedBy_0 : decode cX7_movedBy 0 = .ok (.aload_n 0, 1) := by decide +kernel
theorem dX7_movedBy_1 : decode cX7_movedBy 1 = .ok (.iload_n 1, 1) := by decide +kernel
theorem dX7_movedBy_2 : decode cX7_movedBy 2 = .ok (.aload_n 0, 1) := by decide +kernel
theorem dX7_movedBy_3 : decode cX7_movedBy 3 = .ok (.getfield 7, 3) := by decide +kernel
theorem dX7_movedBy_6 : decode cX7_movedBy 6 = .ok (.bipush 41, 2) := by decide +kernel
theorem dX7_movedBy_8 : decode cX7_movedBy 8 = .ok (.iload_n 2, 1) := by decide +kernel
theorem dX7_movedBy_9 : decode cX7_movedBy 9 = .ok (.iadd, 1) := by decide +kernel
theorem dX7_movedBy_10 : decode cX7_movedBy 10 = .ok (.iaload, 1) := by decide +kernel
theorem dX7_movedBy_11 : decode cX7_movedBy 11 = .ok (.invokevirtual 74, 3) := by decide +kernel
theorem dX7_movedBy_14 : decode cX7_movedBy 14 = .ok (.iconst 0, 1) := by decide +kernel
theorem dX7_movedBy_15 : decode cX7_movedBy 15 = .ok (.istore_n 3, 1) := by decide +kernel
theorem dX7_movedBy_16 : decode cX7_movedBy 16 = .ok (.iconst 0, 1) := by decide +kernel
theorem dX7_movedBy_17 : decode cX7_movedBy 17 = .ok (.istore 4, 2) := by decide +kernel
theorem dX7_movedBy_19 : decode cX7_movedBy 19 = .ok (.iload 4, 2) := by decide +kernel
theorem dX7_movedBy_21 : decode cX7_movedBy 21 = .ok (.aload_n 0, 1) := by decide +kernel
theorem dX7_movedBy_22 : decode cX7_movedBy 22 = .ok (.getfield 7, 3) := by decide +kernel
theorem dX7_movedBy_25 : decode cX7_movedBy 25 = .ok (.iconst 0, 1) := by decide +kernel
theorem dX7_movedBy_26 : decode cX7_movedBy 26 = .ok (.iaload, 1) := by decide +kernel
theorem dX7_movedBy_27 : decode cX7_movedBy 27 = .ok (.if_icmp .ge 45, 3) := by decide +kernel
theorem dX7_movedBy_30 : decode cX7_movedBy 30 = .ok (.iload_n 3, 1) := by decide +kernel
theorem dX7_movedBy_31 : decode cX7_movedBy 31 = .ok (.aload_n 0, 1) := by decide +kernel
theorem dX7_movedBy_32 : decode cX7_movedBy 32 = .ok (.getfield 22, 3) := by decide +kernel
theorem dX7_movedBy_35 : decode cX7_movedBy 35 = .ok (.iload 4, 2) := by decide +kernel
theorem dX7_movedBy_37 : decode cX7_movedBy 37 = .ok (.iaload, 1) := by decide +kernel
theorem dX7_movedBy_38 : decode cX7_movedBy 38 = .ok (.iconst (-1), 1) := by decide +kernel
theorem dX7_movedBy_39 : decode cX7_movedBy 39 = .ok (.if_icmp .eq 24, 3) := by decide +kernel
theorem dX7_movedBy_42 : decode cX7_movedBy 42 = .ok (.aload_n 0, 1) := by decide +kernel
theorem dX7_movedBy_43 : decode cX7_movedBy 43 = .ok (.getfield 22, 3) := by decide +kernel
theorem dX7_movedBy_46 : decode cX7_movedBy 46 = .ok (.iload 4, 2) := by decide +kernel
theorem dX7_movedBy_48 : decode cX7_movedBy 48 = .ok (.iaload, 1) := by decide +kernel
theorem dX7_movedBy_49 : decode cX7_movedBy 49 = .ok (.aload_n 0, 1) := by decide +kernel
theorem dX7_movedBy_50 : decode cX7_movedBy 50 = .ok (.getfield 19, 3) := by decide +kernel
theorem dX7_movedBy_53 : decode cX7_movedBy 53 = .ok (.iload 4, 2) := by decide +kernel
theorem dX7_movedBy_55 : decode cX7_movedBy 55 = .ok (.iaload, 1) := by decide +kernel
theorem dX7_movedBy_56 : decode cX7_movedBy 56 = .ok (.if_icmp .eq 7, 3) := by decide +kernel
theorem dX7_movedBy_59 : decode cX7_movedBy 59 = .ok (.iconst 1, 1) := by decide +kernel
theorem dX7_movedBy_60 : decode cX7_movedBy 60 = .ok (.goto 4, 3) := by decide +kernel
theorem dX7_movedBy_63 : decode cX7_movedBy 63 = .ok (.iconst 0, 1) := by decide +kernel
theorem dX7_movedBy_64 : decode cX7_movedBy 64 = .ok (.iadd, 1) := by decide +kernel
theorem dX7_movedBy_65 : decode cX7_movedBy 65 = .ok (.istore_n 3, 1) := by decide +kernel
theorem dX7_movedBy_66 : decode cX7_movedBy 66 = .ok (.iinc 4 1, 3) := by decide +kernel
theorem dX7_movedBy_69 : decode cX7_movedBy 69 = .ok (.goto (-50), 3) := by decide +kernel
theorem dX7_movedBy_72 : decode cX7_movedBy 72 = .ok (.iload_n 3, 1) := by decide +kernel
theorem dX7_movedBy_73 : decode cX7_movedBy 73 = .ok (.ireturn, 1) := by decide +kernel
theorem dX7_moved_0 : decode cX7_moved 0 = .ok (.aload_n 0, 1) := by decide +kernel
theorem dX7_moved_1 : decode cX7_moved 1 = .ok (.iload_n 1, 1) := by decide +kernel
theorem dX7_moved_2 : decode cX7_moved 2 = .ok (.invokestatic 123, 3) := by decide +kernel
theorem dX7_moved_5 : decode cX7_moved 5 = .ok (.ifCond .eq 14, 3) := by decide +kernel
theorem dX7_moved_8 : decode cX7_moved 8 = .ok (.iload_n 2, 1) := by decide +kernel
theorem dX7_moved_9 : decode cX7_moved 9 = .ok (.invokestatic 120, 3) := by decide +kernel
theorem dX7_moved_12 : decode cX7_moved 12 = .ok (.ifCond .eq 7, 3) := by decide +kernel
theorem dX7_moved_15 : decode cX7_moved 15 = .ok (.iconst 0, 1) := by decide +kernel
theorem dX7_moved_16 : decode cX7_moved 16 = .ok (.goto 4, 3) := by decide +kernel
theorem dX7_moved_19 : decode cX7_moved 19 = .ok (.iconst 1, 1) := by decide +kernel
theorem dX7_moved_20 : decode cX7_moved 20 = .ok (.invokevirtual 80, 3) := by decide +kernel
theorem dX7_moved_23 : decode cX7_moved 23 = .ok (.ifCond .eq 12, 3) := by decide +kernel
theorem dX7_moved_26 : decode cX7_moved 26 = .ok (.aload_n 0, 1) := by decide +kernel
theorem dX7_moved_27 : decode cX7_moved 27 = .ok (.iload_n 1, 1) := by decide +kernel
theorem dX7_moved_28 : decode cX7_moved 28 = .ok (.iload_n 2, 1) := by decide +kernel
theorem dX7_moved_29 : decode cX7_moved 29 = .ok (.invokevirtual 186, 3) := by decide +kernel
theorem dX7_moved_32 : decode cX7_moved 32 = .ok (.goto 4, 3) := by decide +kernel
theorem dX7_moved_35 : decode cX7_moved 35 = .ok (.iconst 0, 1) := by decide +kernel
theorem dX7_moved_36 : decode cX7_moved 36 = .ok (.ireturn, 1) := by decide +kernel
theorem dX7_fresh_0 : decode cX7_fresh 0 = .ok (.iconst 0, 1) := by decide +kernel
theorem dX7_fresh_1 : decode cX7_fresh 1 = .ok (.istore_n 1, 1) := by decide +kernel
theorem dX7_fresh_2 : decode cX7_fresh 2 = .ok (.iconst 0, 1) := by decide +kernel
theorem dX7_fresh_3 : decode cX7_fresh 3 = .ok (.istore_n 2, 1) := by decide +kernel
theorem dX7_fresh_4 : decode cX7_fresh 4 = .ok (.iload_n 2, 1) := by decide +kernel
theorem dX7_fresh_5 : decode cX7_fresh 5 = .ok (.aload_n 0, 1) := by decide +kernel
theorem dX7_fresh_6 : decode cX7_fresh 6 = .ok (.getfield 7, 3) := by decide +kernel
theorem dX7_fresh_9 : decode cX7_fresh 9 = .ok (.bipush 45, 2) := by decide +kernel
theorem dX7_fresh_11 : decode cX7_fresh 11 = .ok (.iaload, 1) := by decide +kernel
theorem dX7_fresh_12 : decode cX7_fresh 12 = .ok (.if_icmp .ge 22, 3) := by decide +kernel
theorem dX7_fresh_15 : decode cX7_fresh 15 = .ok (.iload_n 1, 1) := by decide +kernel
theorem dX7_fresh_16 : decode cX7_fresh 16 = .ok (.aload_n 0, 1) := by decide +kernel
theorem dX7_fresh_17 : decode cX7_fresh 17 = .ok (.getfield 7, 3) := by decide +kernel
theorem dX7_fresh_20 : decode cX7_fresh 20 = .ok (.iload_n 2, 1) := by decide +kernel
theorem dX7_fresh_21 : decode cX7_fresh 21 = .ok (.iconst 2, 1) := by decide +kernel
theorem dX7_fresh_22 : decode cX7_fresh 22 = .ok (.invokestatic 129, 3) := by decide +kernel
theorem dX7_fresh_25 : decode cX7_fresh 25 = .ok (.iaload, 1) := by decide +kernel
theorem dX7_fresh_26 : decode cX7_fresh 26 = .ok (.iadd, 1) := by decide +kernel
theorem dX7_fresh_27 : decode cX7_fresh 27 = .ok (.istore_n 1, 1) := by decide +kernel
theorem dX7_fresh_28 : decode cX7_fresh 28 = .ok (.iinc 2 1, 3) := by decide +kernel
theorem dX7_fresh_31 : decode cX7_fresh 31 = .ok (.goto (-27), 3) := by decide +kernel
theorem dX7_fresh_34 : decode cX7_fresh 34 = .ok (.iload_n 1, 1) := by decide +kernel
theorem dX7_fresh_35 : decode cX7_fresh 35 = .ok (.ifCond .ne 7, 3) := by decide +kernel
theorem dX7_fresh_38 : decode cX7_fresh 38 = .ok (.dconst 1, 1) := by decide +kernel
theorem dX7_fresh_39 : decode cX7_fresh 39 = .ok (.goto 13, 3) := by decide +kernel
theorem dX7_fresh_42 : decode cX7_fresh 42 = .ok (.iload_n 1, 1) := by decide +kernel
theorem dX7_fresh_43 : decode cX7_fresh 43 = .ok (.aload_n 0, 1) := by decide +kernel
theorem dX7_fresh_44 : decode cX7_fresh 44 = .ok (.invokevirtual 168, 3) := by decide +kernel
theorem dX7_fresh_47 : decode cX7_fresh 47 = .ok (.isub, 1) := by decide +kernel
theorem dX7_fresh_48 : decode cX7_fresh 48 = .ok (.i2d, 1) := by decide +kernel
theorem dX7_fresh_49 : decode cX7_fresh 49 = .ok (.iload_n 1, 1) := by decide +kernel
theorem dX7_fresh_50 : decode cX7_fresh 50 = .ok (.i2d, 1) := by decide +kernel
theorem dX7_fresh_51 : decode cX7_fresh 51 = .ok (.ddiv, 1) := by decide +kernel
theorem dX7_fresh_52 : decode cX7_fresh 52 = .ok (.dreturn, 1) := by decide +kernel
theorem dX7_freshShare_0 : decode cX7_freshShare 0 = .ok (.aload_n 0, 1) := by decide +kernel
theorem dX7_freshShare_1 : decode cX7_freshShare 1 = .ok (.iconst 0, 1) := by decide +kernel
theorem dX7_freshShare_2 : decode cX7_freshShare 2 = .ok (.putfield 38, 3) := by decide +kernel
theorem dX7_freshShare_5 : decode cX7_freshShare 5 = .ok (.aload_n 0, 1) := by decide +kernel
theorem dX7_freshShare_6 : decode cX7_freshShare 6 = .ok (.invokevirtual 189, 3) := by decide +kernel
theorem dX7_freshShare_9 : decode cX7_freshShare 9 = .ok (.dreturn, 1) := by decide +kernel
theorem dX7_bitsOf_0 : decode cX7_bitsOf 0 = .ok (.dload_n 0, 1) := by decide +kernel
theorem dX7_bitsOf_1 : decode cX7_bitsOf 1 = .ok (.dconst 0, 1) := by decide +kernel
theorem dX7_bitsOf_2 : decode cX7_bitsOf 2 = .ok (.dcmp .l, 1) := by decide +kernel
theorem dX7_bitsOf_3 : decode cX7_bitsOf 3 = .ok (.ifCond .ne 5, 3) := by decide +kernel
theorem dX7_bitsOf_6 : decode cX7_bitsOf 6 = .ok (.lconst 0, 1) := by decide +kernel
theorem dX7_bitsOf_7 : decode cX7_bitsOf 7 = .ok (.lreturn, 1) := by decide +kernel
theorem dX7_bitsOf_8 : decode cX7_bitsOf 8 = .ok (.ldc2_w 193, 3) := by decide +kernel
theorem dX7_bitsOf_11 : decode cX7_bitsOf 11 = .ok (.lstore_n 2, 1) := by decide +kernel
theorem dX7_bitsOf_12 : decode cX7_bitsOf 12 = .ok (.dload_n 0, 1) := by decide +kernel
theorem dX7_bitsOf_13 : decode cX7_bitsOf 13 = .ok (.dstore 4, 2) := by decide +kernel
theorem dX7_bitsOf_15 : decode cX7_bitsOf 15 = .ok (.dload 4, 2) := by decide +kernel
theorem dX7_bitsOf_17 : decode cX7_bitsOf 17 = .ok (.dconst 1, 1) := by decide +kernel
theorem dX7_bitsOf_18 : decode cX7_bitsOf 18 = .ok (.dcmp .g, 1) := by decide +kernel
theorem dX7_bitsOf_19 : decode cX7_bitsOf 19 = .ok (.ifCond .ge 18, 3) := by decide +kernel
theorem dX7_bitsOf_22 : decode cX7_bitsOf 22 = .ok (.dload 4, 2) := by decide +kernel
theorem dX7_bitsOf_24 : decode cX7_bitsOf 24 = .ok (.ldc2_w 195, 3) := by decide +kernel
theorem dX7_bitsOf_27 : decode cX7_bitsOf 27 = .ok (.dmul, 1) := by decide +kernel
theorem dX7_bitsOf_28 : decode cX7_bitsOf 28 = .ok (.dstore 4, 2) := by decide +kernel
theorem dX7_bitsOf_30 : decode cX7_bitsOf 30 = .ok (.lload_n 2, 1) := by decide +kernel
theorem dX7_bitsOf_31 : decode cX7_bitsOf 31 = .ok (.lconst 1, 1) := by decide +kernel
theorem dX7_bitsOf_32 : decode cX7_bitsOf 32 = .ok (.lsub, 1) := by decide +kernel
theorem dX7_bitsOf_33 : decode cX7_bitsOf 33 = .ok (.lstore_n 2, 1) := by decide +kernel
theorem dX7_bitsOf_34 : decode cX7_bitsOf 34 = .ok (.goto (-19), 3) := by decide +kernel
theorem dX7_bitsOf_37 : decode cX7_bitsOf 37 = .ok (.lload_n 2, 1) := by decide +kernel
theorem dX7_bitsOf_38 : decode cX7_bitsOf 38 = .ok (.ldc2_w 197, 3) := by decide +kernel
theorem dX7_bitsOf_41 : decode cX7_bitsOf 41 = .ok (.lmul, 1) := by decide +kernel
theorem dX7_bitsOf_42 : decode cX7_bitsOf 42 = .ok (.dload 4, 2) := by decide +kernel
theorem dX7_bitsOf_44 : decode cX7_bitsOf 44 = .ok (.dconst 1, 1) := by decide +kernel
theorem dX7_bitsOf_45 : decode cX7_bitsOf 45 = .ok (.dsub, 1) := by decide +kernel
theorem dX7_bitsOf_46 : decode cX7_bitsOf 46 = .ok (.ldc2_w 199, 3) := by decide +kernel
theorem dX7_bitsOf_49 : decode cX7_bitsOf 49 = .ok (.dmul, 1) := by decide +kernel
theorem dX7_bitsOf_50 : decode cX7_bitsOf 50 = .ok (.d2l, 1) := by decide +kernel
theorem dX7_bitsOf_51 : decode cX7_bitsOf 51 = .ok (.ladd, 1) := by decide +kernel
theorem dX7_bitsOf_52 : decode cX7_bitsOf 52 = .ok (.lreturn, 1) := by decide +kernel
theorem dX7_digestOne_0 : decode cX7_digestOne 0 = .ok (.aload_n 0, 1) := by decide +kernel
theorem dX7_digestOne_1 : decode cX7_digestOne 1 = .ok (.ldc2_w 201, 3) := by decide +kernel
theorem dX7_digestOne_4 : decode cX7_digestOne 4 = .ok (.aload_n 0, 1) := by decide +kernel
theorem dX7_digestOne_5 : decode cX7_digestOne 5 = .ok (.getfield 203, 3) := by decide +kernel
theorem dX7_digestOne_8 : decode cX7_digestOne 8 = .ok (.lmul, 1) := by decide +kernel
theorem dX7_digestOne_9 : decode cX7_digestOne 9 = .ok (.lload_n 1, 1) := by decide +kernel
theorem dX7_digestOne_10 : decode cX7_digestOne 10 = .ok (.ladd, 1) := by decide +kernel
theorem dX7_digestOne_11 : decode cX7_digestOne 11 = .ok (.putfield 203, 3) := by decide +kernel
theorem dX7_digestOne_14 : decode cX7_digestOne 14 = .ok (.return_, 1) := by decide +kernel
theorem dX7_someYear_0 : decode cX7_someYear 0 = .ok (.iload_n 0, 1) := by decide +kernel
theorem dX7_someYear_1 : decode cX7_someYear 1 = .ok (.ifCond .ne 7, 3) := by decide +kernel
theorem dX7_someYear_4 : decode cX7_someYear 4 = .ok (.iconst 0, 1) := by decide +kernel
theorem dX7_someYear_5 : decode cX7_someYear 5 = .ok (.goto 16, 3) := by decide +kernel
theorem dX7_someYear_8 : decode cX7_someYear 8 = .ok (.iload_n 0, 1) := by decide +kernel
theorem dX7_someYear_9 : decode cX7_someYear 9 = .ok (.iconst 1, 1) := by decide +kernel
theorem dX7_someYear_10 : decode cX7_someYear 10 = .ok (.if_icmp .ne 8, 3) := by decide +kernel
theorem dX7_someYear_13 : decode cX7_someYear 13 = .ok (.bipush 100, 2) := by decide +kernel
theorem dX7_someYear_15 : decode cX7_someYear 15 = .ok (.goto 6, 3) := by decide +kernel
theorem dX7_someYear_18 : decode cX7_someYear 18 = .ok (.sipush 777, 3) := by decide +kernel
theorem dX7_someYear_21 : decode cX7_someYear 21 = .ok (.ireturn, 1) := by decide +kernel
theorem dX7_digestFeast_0 : decode cX7_digestFeast 0 = .ok (.iconst 0, 1) := by decide +kernel
theorem dX7_digestFeast_1 : decode cX7_digestFeast 1 = .ok (.istore_n 2, 1) := by decide +kernel
theorem dX7_digestFeast_2 : decode cX7_digestFeast 2 = .ok (.iload_n 2, 1) := by decide +kernel
theorem dX7_digestFeast_3 : decode cX7_digestFeast 3 = .ok (.iconst 4, 1) := by decide +kernel
theorem dX7_digestFeast_4 : decode cX7_digestFeast 4 = .ok (.if_icmp .ge 20, 3) := by decide +kernel
theorem dX7_digestFeast_7 : decode cX7_digestFeast 7 = .ok (.aload_n 0, 1) := by decide +kernel
theorem dX7_digestFeast_8 : decode cX7_digestFeast 8 = .ok (.aload_n 0, 1) := by decide +kernel
theorem dX7_digestFeast_9 : decode cX7_digestFeast 9 = .ok (.iload_n 1, 1) := by decide +kernel
theorem dX7_digestFeast_10 : decode cX7_digestFeast 10 = .ok (.iload_n 2, 1) := by decide +kernel
theorem dX7_digestFeast_11 : decode cX7_digestFeast 11 = .ok (.invokevirtual 145, 3) := by decide +kernel
theorem dX7_digestFeast_14 : decode cX7_digestFeast 14 = .ok (.i2l, 1) := by decide +kernel
theorem dX7_digestFeast_15 : decode cX7_digestFeast 15 = .ok (.invokevirtual 207, 3) := by decide +kernel
theorem dX7_digestFeast_18 : decode cX7_digestFeast 18 = .ok (.iinc 2 1, 3) := by decide +kernel
theorem dX7_digestFeast_21 : decode cX7_digestFeast 21 = .ok (.goto (-19), 3) := by decide +kernel
theorem dX7_digestFeast_24 : decode cX7_digestFeast 24 = .ok (.iconst 0, 1) := by decide +kernel
theorem dX7_digestFeast_25 : decode cX7_digestFeast 25 = .ok (.istore_n 2, 1) := by decide +kernel
theorem dX7_digestFeast_26 : decode cX7_digestFeast 26 = .ok (.iload_n 2, 1) := by decide +kernel
theorem dX7_digestFeast_27 : decode cX7_digestFeast 27 = .ok (.iconst 3, 1) := by decide +kernel
theorem dX7_digestFeast_28 : decode cX7_digestFeast 28 = .ok (.if_icmp .ge 68, 3) := by decide +kernel
theorem dX7_digestFeast_31 : decode cX7_digestFeast 31 = .ok (.iconst 0, 1) := by decide +kernel
theorem dX7_digestFeast_32 : decode cX7_digestFeast 32 = .ok (.istore_n 3, 1) := by decide +kernel
theorem dX7_digestFeast_33 : decode cX7_digestFeast 33 = .ok (.iload_n 3, 1) := by decide +kernel
theorem dX7_digestFeast_34 : decode cX7_digestFeast 34 = .ok (.iconst 3, 1) := by decide +kernel
theorem dX7_digestFeast_35 : decode cX7_digestFeast 35 = .ok (.if_icmp .ge 41, 3) := by decide +kernel
theorem dX7_digestFeast_38 : decode cX7_digestFeast 38 = .ok (.aload_n 0, 1) := by decide +kernel
theorem dX7_digestFeast_39 : decode cX7_digestFeast 39 = .ok (.aload_n 0, 1) := by decide +kernel
theorem dX7_digestFeast_40 : decode cX7_digestFeast 40 = .ok (.iload_n 1, 1) := by decide +kernel
theorem dX7_digestFeast_41 : decode cX7_digestFeast 41 = .ok (.iload_n 2, 1) := by decide +kernel
theorem dX7_digestFeast_42 : decode cX7_digestFeast 42 = .ok (.invokestatic 211, 3) := by decide +kernel
theorem dX7_digestFeast_45 : decode cX7_digestFeast 45 = .ok (.iload_n 3, 1) := by decide +kernel
theorem dX7_digestFeast_46 : decode cX7_digestFeast 46 = .ok (.iconst 1, 1) := by decide +kernel
theorem dX7_digestFeast_47 : decode cX7_digestFeast 47 = .ok (.invokevirtual 148, 3) := by decide +kernel
theorem dX7_digestFeast_50 : decode cX7_digestFeast 50 = .ok (.i2l, 1) := by decide +kernel
theorem dX7_digestFeast_51 : decode cX7_digestFeast 51 = .ok (.invokevirtual 207, 3) := by decide +kernel
theorem dX7_digestFeast_54 : decode cX7_digestFeast 54 = .ok (.aload_n 0, 1) := by decide +kernel
theorem dX7_digestFeast_55 : decode cX7_digestFeast 55 = .ok (.aload_n 0, 1) := by decide +kernel
theorem dX7_digestFeast_56 : decode cX7_digestFeast 56 = .ok (.iload_n 1, 1) := by decide +kernel
theorem dX7_digestFeast_57 : decode cX7_digestFeast 57 = .ok (.iload_n 2, 1) := by decide +kernel
theorem dX7_digestFeast_58 : decode cX7_digestFeast 58 = .ok (.invokestatic 211, 3) := by decide +kernel
theorem dX7_digestFeast_61 : decode cX7_digestFeast 61 = .ok (.iload_n 3, 1) := by decide +kernel
theorem dX7_digestFeast_62 : decode cX7_digestFeast 62 = .ok (.iconst 0, 1) := by decide +kernel
theorem dX7_digestFeast_63 : decode cX7_digestFeast 63 = .ok (.invokevirtual 148, 3) := by decide +kernel
theorem dX7_digestFeast_66 : decode cX7_digestFeast 66 = .ok (.i2l, 1) := by decide +kernel
theorem dX7_digestFeast_67 : decode cX7_digestFeast 67 = .ok (.invokevirtual 207, 3) := by decide +kernel
theorem dX7_digestFeast_70 : decode cX7_digestFeast 70 = .ok (.iinc 3 1, 3) := by decide +kernel
theorem dX7_digestFeast_73 : decode cX7_digestFeast 73 = .ok (.goto (-40), 3) := by decide +kernel
theorem dX7_digestFeast_76 : decode cX7_digestFeast 76 = .ok (.aload_n 0, 1) := by decide +kernel
theorem dX7_digestFeast_77 : decode cX7_digestFeast 77 = .ok (.aload_n 0, 1) := by decide +kernel
theorem dX7_digestFeast_78 : decode cX7_digestFeast 78 = .ok (.iload_n 1, 1) := by decide +kernel
theorem dX7_digestFeast_79 : decode cX7_digestFeast 79 = .ok (.iload_n 2, 1) := by decide +kernel
theorem dX7_digestFeast_80 : decode cX7_digestFeast 80 = .ok (.invokestatic 211, 3) := by decide +kernel
theorem dX7_digestFeast_83 : decode cX7_digestFeast 83 = .ok (.invokevirtual 152, 3) := by decide +kernel
theorem dX7_digestFeast_86 : decode cX7_digestFeast 86 = .ok (.i2l, 1) := by decide +kernel
theorem dX7_digestFeast_87 : decode cX7_digestFeast 87 = .ok (.invokevirtual 207, 3) := by decide +kernel
theorem dX7_digestFeast_90 : decode cX7_digestFeast 90 = .ok (.iinc 2 1, 3) := by decide +kernel
theorem dX7_digestFeast_93 : decode cX7_digestFeast 93 = .ok (.goto (-67), 3) := by decide +kernel
theorem dX7_digestFeast_96 : decode cX7_digestFeast 96 = .ok (.return_, 1) := by decide +kernel
theorem dX7_digest_0 : decode cX7_digest 0 = .ok (.aload_n 0, 1) := by decide +kernel
theorem dX7_digest_1 : decode cX7_digest 1 = .ok (.iconst 0, 1) := by decide +kernel
theorem dX7_digest_2 : decode cX7_digest 2 = .ok (.putfield 38, 3) := by decide +kernel
theorem dX7_digest_5 : decode cX7_digest 5 = .ok (.aload_n 0, 1) := by decide +kernel
theorem dX7_digest_6 : decode cX7_digest 6 = .ok (.ldc2_w 214, 3) := by decide +kernel
theorem dX7_digest_9 : decode cX7_digest 9 = .ok (.putfield 203, 3) := by decide +kernel
theorem dX7_digest_12 : decode cX7_digest 12 = .ok (.iconst 0, 1) := by decide +kernel
theorem dX7_digest_13 : decode cX7_digest 13 = .ok (.istore_n 1, 1) := by decide +kernel
theorem dX7_digest_14 : decode cX7_digest 14 = .ok (.iload_n 1, 1) := by decide +kernel
theorem dX7_digest_15 : decode cX7_digest 15 = .ok (.bipush 8, 2) := by decide +kernel
theorem dX7_digest_17 : decode cX7_digest 17 = .ok (.if_icmp .ge 19, 3) := by decide +kernel
theorem dX7_digest_20 : decode cX7_digest 20 = .ok (.aload_n 0, 1) := by decide +kernel
theorem dX7_digest_21 : decode cX7_digest 21 = .ok (.aload_n 0, 1) := by decide +kernel
theorem dX7_digest_22 : decode cX7_digest 22 = .ok (.iload_n 1, 1) := by decide +kernel
theorem dX7_digest_23 : decode cX7_digest 23 = .ok (.invokevirtual 171, 3) := by decide +kernel
theorem dX7_digest_26 : decode cX7_digest 26 = .ok (.i2l, 1) := by decide +kernel
theorem dX7_digest_27 : decode cX7_digest 27 = .ok (.invokevirtual 207, 3) := by decide +kernel
theorem dX7_digest_30 : decode cX7_digest 30 = .ok (.iinc 1 1, 3) := by decide +kernel
theorem dX7_digest_33 : decode cX7_digest 33 = .ok (.goto (-19), 3) := by decide +kernel
theorem dX7_digest_36 : decode cX7_digest 36 = .ok (.iconst 0, 1) := by decide +kernel
theorem dX7_digest_37 : decode cX7_digest 37 = .ok (.istore_n 1, 1) := by decide +kernel
theorem dX7_digest_38 : decode cX7_digest 38 = .ok (.iload_n 1, 1) := by decide +kernel
theorem dX7_digest_39 : decode cX7_digest 39 = .ok (.aload_n 0, 1) := by decide +kernel
theorem dX7_digest_40 : decode cX7_digest 40 = .ok (.getfield 7, 3) := by decide +kernel
theorem dX7_digest_43 : decode cX7_digest 43 = .ok (.iconst 0, 1) := by decide +kernel
theorem dX7_digest_44 : decode cX7_digest 44 = .ok (.iaload, 1) := by decide +kernel
theorem dX7_digest_45 : decode cX7_digest 45 = .ok (.if_icmp .ge 14, 3) := by decide +kernel
theorem dX7_digest_48 : decode cX7_digest 48 = .ok (.aload_n 0, 1) := by decide +kernel
theorem dX7_digest_49 : decode cX7_digest 49 = .ok (.iload_n 1, 1) := by decide +kernel
theorem dX7_digest_50 : decode cX7_digest 50 = .ok (.invokevirtual 216, 3) := by decide +kernel
theorem dX7_digest_53 : decode cX7_digest 53 = .ok (.iinc 1 1, 3) := by decide +kernel
theorem dX7_digest_56 : decode cX7_digest 56 = .ok (.goto (-18), 3) := by decide +kernel
theorem dX7_digest_59 : decode cX7_digest 59 = .ok (.iconst 0, 1) := by decide +kernel
theorem dX7_digest_60 : decode cX7_digest 60 = .ok (.istore_n 1, 1) := by decide +kernel
theorem dX7_digest_61 : decode cX7_digest 61 = .ok (.iload_n 1, 1) := by decide +kernel
theorem dX7_digest_62 : decode cX7_digest 62 = .ok (.iconst 3, 1) := by decide +kernel
theorem dX7_digest_63 : decode cX7_digest 63 = .ok (.if_icmp .ge 49, 3) := by decide +kernel
theorem dX7_digest_66 : decode cX7_digest 66 = .ok (.aload_n 0, 1) := by decide +kernel
theorem dX7_digest_67 : decode cX7_digest 67 = .ok (.aload_n 0, 1) := by decide +kernel
theorem dX7_digest_68 : decode cX7_digest 68 = .ok (.iload_n 1, 1) := by decide +kernel
theorem dX7_digest_69 : decode cX7_digest 69 = .ok (.invokestatic 211, 3) := by decide +kernel
theorem dX7_digest_72 : decode cX7_digest 72 = .ok (.invokevirtual 159, 3) := by decide +kernel
theorem dX7_digest_75 : decode cX7_digest 75 = .ok (.i2l, 1) := by decide +kernel
theorem dX7_digest_76 : decode cX7_digest 76 = .ok (.invokevirtual 207, 3) := by decide +kernel
theorem dX7_digest_79 : decode cX7_digest 79 = .ok (.iconst 0, 1) := by decide +kernel
theorem dX7_digest_80 : decode cX7_digest 80 = .ok (.istore_n 2, 1) := by decide +kernel
theorem dX7_digest_81 : decode cX7_digest 81 = .ok (.iload_n 2, 1) := by decide +kernel
theorem dX7_digest_82 : decode cX7_digest 82 = .ok (.iconst 3, 1) := by decide +kernel
theorem dX7_digest_83 : decode cX7_digest 83 = .ok (.if_icmp .ge 23, 3) := by decide +kernel
theorem dX7_digest_86 : decode cX7_digest 86 = .ok (.aload_n 0, 1) := by decide +kernel
theorem dX7_digest_87 : decode cX7_digest 87 = .ok (.aload_n 0, 1) := by decide +kernel
theorem dX7_digest_88 : decode cX7_digest 88 = .ok (.iload_n 1, 1) := by decide +kernel
theorem dX7_digest_89 : decode cX7_digest 89 = .ok (.invokestatic 211, 3) := by decide +kernel
theorem dX7_digest_92 : decode cX7_digest 92 = .ok (.iload_n 2, 1) := by decide +kernel
theorem dX7_digest_93 : decode cX7_digest 93 = .ok (.invokevirtual 186, 3) := by decide +kernel
theorem dX7_digest_96 : decode cX7_digest 96 = .ok (.i2l, 1) := by decide +kernel
theorem dX7_digest_97 : decode cX7_digest 97 = .ok (.invokevirtual 207, 3) := by decide +kernel
theorem dX7_digest_100 : decode cX7_digest 100 = .ok (.iinc 2 1, 3) := by decide +kernel
theorem dX7_digest_103 : decode cX7_digest 103 = .ok (.goto (-22), 3) := by decide +kernel
theorem dX7_digest_106 : decode cX7_digest 106 = .ok (.iinc 1 1, 3) := by decide +kernel
theorem dX7_digest_109 : decode cX7_digest 109 = .ok (.goto (-48), 3) := by decide +kernel
theorem dX7_digest_112 : decode cX7_digest 112 = .ok (.iconst 0, 1) := by decide +kernel
theorem dX7_digest_113 : decode cX7_digest 113 = .ok (.istore_n 1, 1) := by decide +kernel
theorem dX7_digest_114 : decode cX7_digest 114 = .ok (.iload_n 1, 1) := by decide +kernel
theorem dX7_digest_115 : decode cX7_digest 115 = .ok (.aload_n 0, 1) := by decide +kernel
theorem dX7_digest_116 : decode cX7_digest 116 = .ok (.getfield 7, 3) := by decide +kernel
theorem dX7_digest_119 : decode cX7_digest 119 = .ok (.bipush 45, 2) := by decide +kernel
theorem dX7_digest_121 : decode cX7_digest 121 = .ok (.iaload, 1) := by decide +kernel
theorem dX7_digest_122 : decode cX7_digest 122 = .ok (.if_icmp .ge 34, 3) := by decide +kernel
theorem dX7_digest_125 : decode cX7_digest 125 = .ok (.iconst 0, 1) := by decide +kernel
theorem dX7_digest_126 : decode cX7_digest 126 = .ok (.istore_n 2, 1) := by decide +kernel
theorem dX7_digest_127 : decode cX7_digest 127 = .ok (.iload_n 2, 1) := by decide +kernel
theorem dX7_digest_128 : decode cX7_digest 128 = .ok (.bipush 14, 2) := by decide +kernel
theorem dX7_digest_130 : decode cX7_digest 130 = .ok (.if_icmp .ge 20, 3) := by decide +kernel
theorem dX7_digest_133 : decode cX7_digest 133 = .ok (.aload_n 0, 1) := by decide +kernel
theorem dX7_digest_134 : decode cX7_digest 134 = .ok (.aload_n 0, 1) := by decide +kernel
theorem dX7_digest_135 : decode cX7_digest 135 = .ok (.iload_n 1, 1) := by decide +kernel
theorem dX7_digest_136 : decode cX7_digest 136 = .ok (.iload_n 2, 1) := by decide +kernel
theorem dX7_digest_137 : decode cX7_digest 137 = .ok (.invokevirtual 165, 3) := by decide +kernel
theorem dX7_digest_140 : decode cX7_digest 140 = .ok (.i2l, 1) := by decide +kernel
theorem dX7_digest_141 : decode cX7_digest 141 = .ok (.invokevirtual 207, 3) := by decide +kernel
theorem dX7_digest_144 : decode cX7_digest 144 = .ok (.iinc 2 1, 3) := by decide +kernel
theorem dX7_digest_147 : decode cX7_digest 147 = .ok (.goto (-20), 3) := by decide +kernel
theorem dX7_digest_150 : decode cX7_digest 150 = .ok (.iinc 1 1, 3) := by decide +kernel
theorem dX7_digest_153 : decode cX7_digest 153 = .ok (.goto (-39), 3) := by decide +kernel
theorem dX7_digest_156 : decode cX7_digest 156 = .ok (.aload_n 0, 1) := by decide +kernel
theorem dX7_digest_157 : decode cX7_digest 157 = .ok (.aload_n 0, 1) := by decide +kernel
theorem dX7_digest_158 : decode cX7_digest 158 = .ok (.bipush 20, 2) := by decide +kernel
theorem dX7_digest_160 : decode cX7_digest 160 = .ok (.invokevirtual 177, 3) := by decide +kernel
theorem dX7_digest_163 : decode cX7_digest 163 = .ok (.i2l, 1) := by decide +kernel
theorem dX7_digest_164 : decode cX7_digest 164 = .ok (.invokevirtual 207, 3) := by decide +kernel
theorem dX7_digest_167 : decode cX7_digest 167 = .ok (.aload_n 0, 1) := by decide +kernel
theorem dX7_digest_168 : decode cX7_digest 168 = .ok (.aload_n 0, 1) := by decide +kernel
theorem dX7_digest_169 : decode cX7_digest 169 = .ok (.iconst 1, 1) := by decide +kernel
theorem dX7_digest_170 : decode cX7_digest 170 = .ok (.bipush 100, 2) := by decide +kernel
theorem dX7_digest_172 : decode cX7_digest 172 = .ok (.invokevirtual 183, 3) := by decide +kernel
theorem dX7_digest_175 : decode cX7_digest 175 = .ok (.i2l, 1) := by decide +kernel
theorem dX7_digest_176 : decode cX7_digest 176 = .ok (.invokevirtual 207, 3) := by decide +kernel
theorem dX7_digest_179 : decode cX7_digest 179 = .ok (.aload_n 0, 1) := by decide +kernel
theorem dX7_digest_180 : decode cX7_digest 180 = .ok (.getfield 7, 3) := by decide +kernel
theorem dX7_digest_183 : decode cX7_digest 183 = .ok (.iconst 0, 1) := by decide +kernel
theorem dX7_digest_184 : decode cX7_digest 184 = .ok (.iaload, 1) := by decide +kernel
theorem dX7_digest_185 : decode cX7_digest 185 = .ok (.ifCond .le 33, 3) := by decide +kernel
theorem dX7_digest_188 : decode cX7_digest 188 = .ok (.aload_n 0, 1) := by decide +kernel
theorem dX7_digest_189 : decode cX7_digest 189 = .ok (.aload_n 0, 1) := by decide +kernel
theorem dX7_digest_190 : decode cX7_digest 190 = .ok (.iconst 0, 1) := by decide +kernel
theorem dX7_digest_191 : decode cX7_digest 191 = .ok (.bipush 50, 2) := by decide +kernel
theorem dX7_digest_193 : decode cX7_digest 193 = .ok (.bipush 20, 2) := by decide +kernel
theorem dX7_digest_195 : decode cX7_digest 195 = .ok (.iconst 0, 1) := by decide +kernel
theorem dX7_digest_196 : decode cX7_digest 196 = .ok (.invokevirtual 174, 3) := by decide +kernel
theorem dX7_digest_199 : decode cX7_digest 199 = .ok (.i2l, 1) := by decide +kernel
theorem dX7_digest_200 : decode cX7_digest 200 = .ok (.invokevirtual 207, 3) := by decide +kernel
theorem dX7_digest_203 : decode cX7_digest 203 = .ok (.aload_n 0, 1) := by decide +kernel
theorem dX7_digest_204 : decode cX7_digest 204 = .ok (.aload_n 0, 1) := by decide +kernel
theorem dX7_digest_205 : decode cX7_digest 205 = .ok (.iconst 0, 1) := by decide +kernel
theorem dX7_digest_206 : decode cX7_digest 206 = .ok (.bipush 50, 2) := by decide +kernel
theorem dX7_digest_208 : decode cX7_digest 208 = .ok (.bipush 20, 2) := by decide +kernel
theorem dX7_digest_210 : decode cX7_digest 210 = .ok (.iconst 1, 1) := by decide +kernel
theorem dX7_digest_211 : decode cX7_digest 211 = .ok (.invokevirtual 174, 3) := by decide +kernel
theorem dX7_digest_214 : decode cX7_digest 214 = .ok (.i2l, 1) := by decide +kernel
theorem dX7_digest_215 : decode cX7_digest 215 = .ok (.invokevirtual 207, 3) := by decide +kernel
theorem dX7_digest_218 : decode cX7_digest 218 = .ok (.aload_n 0, 1) := by decide +kernel
theorem dX7_digest_219 : decode cX7_digest 219 = .ok (.aload_n 0, 1) := by decide +kernel
theorem dX7_digest_220 : decode cX7_digest 220 = .ok (.invokevirtual 189, 3) := by decide +kernel
theorem dX7_digest_223 : decode cX7_digest 223 = .ok (.invokestatic 219, 3) := by decide +kernel
theorem dX7_digest_226 : decode cX7_digest 226 = .ok (.invokevirtual 207, 3) := by decide +kernel
theorem dX7_digest_229 : decode cX7_digest 229 = .ok (.aload_n 0, 1) := by decide +kernel
theorem dX7_digest_230 : decode cX7_digest 230 = .ok (.aload_n 0, 1) := by decide +kernel
theorem dX7_digest_231 : decode cX7_digest 231 = .ok (.getfield 77, 3) := by decide +kernel
theorem dX7_digest_234 : decode cX7_digest 234 = .ok (.i2l, 1) := by decide +kernel
theorem dX7_digest_235 : decode cX7_digest 235 = .ok (.invokevirtual 207, 3) := by decide +kernel
theorem dX7_digest_238 : decode cX7_digest 238 = .ok (.iconst 0, 1) := by decide +kernel
theorem dX7_digest_239 : decode cX7_digest 239 = .ok (.istore_n 1, 1) := by decide +kernel
theorem dX7_digest_240 : decode cX7_digest 240 = .ok (.iload_n 1, 1) := by decide +kernel
theorem dX7_digest_241 : decode cX7_digest 241 = .ok (.aload_n 0, 1) := by decide +kernel
theorem dX7_digest_242 : decode cX7_digest 242 = .ok (.getfield 77, 3) := by decide +kernel
theorem dX7_digest_245 : decode cX7_digest 245 = .ok (.if_icmp .ge 20, 3) := by decide +kernel
theorem dX7_digest_248 : decode cX7_digest 248 = .ok (.aload_n 0, 1) := by decide +kernel
theorem dX7_digest_249 : decode cX7_digest 249 = .ok (.aload_n 0, 1) := by decide +kernel
theorem dX7_digest_250 : decode cX7_digest 250 = .ok (.getfield 16, 3) := by decide +kernel
theorem dX7_digest_253 : decode cX7_digest 253 = .ok (.iload_n 1, 1) := by decide +kernel
theorem dX7_digest_254 : decode cX7_digest 254 = .ok (.iaload, 1) := by decide +kernel
theorem dX7_digest_255 : decode cX7_digest 255 = .ok (.i2l, 1) := by decide +kernel
theorem dX7_digest_256 : decode cX7_digest 256 = .ok (.invokevirtual 207, 3) := by decide +kernel
theorem dX7_digest_259 : decode cX7_digest 259 = .ok (.iinc 1 1, 3) := by decide +kernel
theorem dX7_digest_262 : decode cX7_digest 262 = .ok (.goto (-22), 3) := by decide +kernel
theorem dX7_digest_265 : decode cX7_digest 265 = .ok (.aload_n 0, 1) := by decide +kernel
theorem dX7_digest_266 : decode cX7_digest 266 = .ok (.getfield 203, 3) := by decide +kernel
theorem dX7_digest_269 : decode cX7_digest 269 = .ok (.lreturn, 1) := by decide +kernel
theorem dL_proclaim_0 : decode cL_proclaim 0 = .ok (.aload_n 1, 1) := by decide +kernel
theorem dL_proclaim_1 : decode cL_proclaim 1 = .ok (.iconst 0, 1) := by decide +kernel
theorem dL_proclaim_2 : decode cL_proclaim 2 = .ok (.aload_n 0, 1) := by decide +kernel
theorem dL_proclaim_3 : decode cL_proclaim 3 = .ok (.invokevirtual 7, 3) := by decide +kernel
theorem dL_proclaim_6 : decode cL_proclaim 6 = .ok (.i2l, 1) := by decide +kernel
theorem dL_proclaim_7 : decode cL_proclaim 7 = .ok (.lastore, 1) := by decide +kernel
theorem dL_proclaim_8 : decode cL_proclaim 8 = .ok (.goto 6, 3) := by decide +kernel
theorem dL_proclaim_11 : decode cL_proclaim 11 = .ok (.astore_n 2, 1) := by decide +kernel
theorem dL_proclaim_12 : decode cL_proclaim 12 = .ok (.iconst 1, 1) := by decide +kernel
theorem dL_proclaim_13 : decode cL_proclaim 13 = .ok (.ireturn, 1) := by decide +kernel
theorem dL_proclaim_14 : decode cL_proclaim 14 = .ok (.iconst 0, 1) := by decide +kernel
theorem dL_proclaim_15 : decode cL_proclaim 15 = .ok (.ireturn, 1) := by decide +kernel
theorem dL_forget_0 : decode cL_forget 0 = .ok (.aload_n 1, 1) := by decide +kernel
theorem dL_forget_1 : decode cL_forget 1 = .ok (.iconst 0, 1) := by decide +kernel
theorem dL_forget_2 : decode cL_forget 2 = .ok (.aload_n 0, 1) := by decide +kernel
theorem dL_forget_3 : decode cL_forget 3 = .ok (.invokevirtual 15, 3) := by decide +kernel
theorem dL_forget_6 : decode cL_forget 6 = .ok (.i2l, 1) := by decide +kernel
theorem dL_forget_7 : decode cL_forget 7 = .ok (.lastore, 1) := by decide +kernel
theorem dL_forget_8 : decode cL_forget 8 = .ok (.goto 6, 3) := by decide +kernel
theorem dL_forget_11 : decode cL_forget 11 = .ok (.astore_n 2, 1) := by decide +kernel
theorem dL_forget_12 : decode cL_forget 12 = .ok (.iconst 1, 1) := by decide +kernel
theorem dL_forget_13 : decode cL_forget 13 = .ok (.ireturn, 1) := by decide +kernel
theorem dL_forget_14 : decode cL_forget 14 = .ok (.iconst 0, 1) := by decide +kernel
theorem dL_forget_15 : decode cL_forget 15 = .ok (.ireturn, 1) := by decide +kernel
theorem dL_rank_0 : decode cL_rank 0 = .ok (.aload_n 3, 1) := by decide +kernel
theorem dL_rank_1 : decode cL_rank 1 = .ok (.iconst 0, 1) := by decide +kernel
theorem dL_rank_2 : decode cL_rank 2 = .ok (.aload_n 0, 1) := by decide +kernel
theorem dL_rank_3 : decode cL_rank 3 = .ok (.iload_n 1, 1) := by decide +kernel
theorem dL_rank_4 : decode cL_rank 4 = .ok (.iload_n 2, 1) := by decide +kernel
theorem dL_rank_5 : decode cL_rank 5 = .ok (.invokevirtual 20, 3) := by decide +kernel
theorem dL_rank_8 : decode cL_rank 8 = .ok (.i2l, 1) := by decide +kernel
theorem dL_rank_9 : decode cL_rank 9 = .ok (.lastore, 1) := by decide +kernel
theorem dL_rank_10 : decode cL_rank 10 = .ok (.goto 11, 3) := by decide +kernel
theorem dL_rank_13 : decode cL_rank 13 = .ok (.astore 4, 2) := by decide +kernel
theorem dL_rank_15 : decode cL_rank 15 = .ok (.iconst 1, 1) := by decide +kernel
theorem dL_rank_16 : decode cL_rank 16 = .ok (.ireturn, 1) := by decide +kernel
theorem dL_rank_17 : decode cL_rank 17 = .ok (.astore 4, 2) := by decide +kernel
theorem dL_rank_19 : decode cL_rank 19 = .ok (.iconst 2, 1) := by decide +kernel
theorem dL_rank_20 : decode cL_rank 20 = .ok (.ireturn, 1) := by decide +kernel
theorem dL_rank_21 : decode cL_rank 21 = .ok (.iconst 0, 1) := by decide +kernel
theorem dL_rank_22 : decode cL_rank 22 = .ok (.ireturn, 1) := by decide +kernel
theorem dL_teach_0 : decode cL_teach 0 = .ok (.aload_n 3, 1) := by decide +kernel
theorem dL_teach_1 : decode cL_teach 1 = .ok (.iconst 0, 1) := by decide +kernel
theorem dL_teach_2 : decode cL_teach 2 = .ok (.aload_n 0, 1) := by decide +kernel
theorem dL_teach_3 : decode cL_teach 3 = .ok (.iload_n 1, 1) := by decide +kernel
theorem dL_teach_4 : decode cL_teach 4 = .ok (.iload_n 2, 1) := by decide +kernel
theorem dL_teach_5 : decode cL_teach 5 = .ok (.invokevirtual 26, 3) := by decide +kernel
theorem dL_teach_8 : decode cL_teach 8 = .ok (.i2l, 1) := by decide +kernel
theorem dL_teach_9 : decode cL_teach 9 = .ok (.lastore, 1) := by decide +kernel
theorem dL_teach_10 : decode cL_teach 10 = .ok (.goto 7, 3) := by decide +kernel
theorem dL_teach_13 : decode cL_teach 13 = .ok (.astore 4, 2) := by decide +kernel
theorem dL_teach_15 : decode cL_teach 15 = .ok (.iconst 1, 1) := by decide +kernel
theorem dL_teach_16 : decode cL_teach 16 = .ok (.ireturn, 1) := by decide +kernel
theorem dL_teach_17 : decode cL_teach 17 = .ok (.iconst 0, 1) := by decide +kernel
theorem dL_teach_18 : decode cL_teach 18 = .ok (.ireturn, 1) := by decide +kernel
theorem dL_carve_0 : decode cL_carve 0 = .ok (.aload_n 3, 1) := by decide +kernel
theorem dL_carve_1 : decode cL_carve 1 = .ok (.iconst 0, 1) := by decide +kernel
theorem dL_carve_2 : decode cL_carve 2 = .ok (.aload_n 0, 1) := by decide +kernel
theorem dL_carve_3 : decode cL_carve 3 = .ok (.iload_n 1, 1) := by decide +kernel
theorem dL_carve_4 : decode cL_carve 4 = .ok (.iload_n 2, 1) := by decide +kernel
theorem dL_carve_5 : decode cL_carve 5 = .ok (.invokevirtual 29, 3) := by decide +kernel
theorem dL_carve_8 : decode cL_carve 8 = .ok (.i2l, 1) := by decide +kernel
theorem dL_carve_9 : decode cL_carve 9 = .ok (.lastore, 1) := by decide +kernel
theorem dL_carve_10 : decode cL_carve 10 = .ok (.goto 7, 3) := by decide +kernel
theorem dL_carve_13 : decode cL_carve 13 = .ok (.astore 4, 2) := by decide +kernel
theorem dL_carve_15 : decode cL_carve 15 = .ok (.iconst 1, 1) := by decide +kernel
theorem dL_carve_16 : decode cL_carve 16 = .ok (.ireturn, 1) := by decide +kernel
theorem dL_carve_17 : decode cL_carve 17 = .ok (.iconst 0, 1) := by decide +kernel
theorem dL_carve_18 : decode cL_carve 18 = .ok (.ireturn, 1) := by decide +kernel
theorem dL_burn_0 : decode cL_burn 0 = .ok (.aload_n 2, 1) := by decide +kernel
theorem dL_burn_1 : decode cL_burn 1 = .ok (.iconst 0, 1) := by decide +kernel
theorem dL_burn_2 : decode cL_burn 2 = .ok (.aload_n 0, 1) := by decide +kernel
theorem dL_burn_3 : decode cL_burn 3 = .ok (.iload_n 1, 1) := by decide +kernel
theorem dL_burn_4 : decode cL_burn 4 = .ok (.invokevirtual 32, 3) := by decide +kernel
theorem dL_burn_7 : decode cL_burn 7 = .ok (.i2l, 1) := by decide +kernel
theorem dL_burn_8 : decode cL_burn 8 = .ok (.lastore, 1) := by decide +kernel
theorem dL_burn_9 : decode cL_burn 9 = .ok (.goto 6, 3) := by decide +kernel
theorem dL_burn_12 : decode cL_burn 12 = .ok (.astore_n 3, 1) := by decide +kernel
theorem dL_burn_13 : decode cL_burn 13 = .ok (.iconst 1, 1) := by decide +kernel
theorem dL_burn_14 : decode cL_burn 14 = .ok (.ireturn, 1) := by decide +kernel
theorem dL_burn_15 : decode cL_burn 15 = .ok (.iconst 0, 1) := by decide +kernel
theorem dL_burn_16 : decode cL_burn 16 = .ok (.ireturn, 1) := by decide +kernel
theorem dL_set_0 : decode cL_set 0 = .ok (.aload_n 2, 1) := by decide +kernel
theorem dL_set_1 : decode cL_set 1 = .ok (.iconst 0, 1) := by decide +kernel
theorem dL_set_2 : decode cL_set 2 = .ok (.aload_n 0, 1) := by decide +kernel
theorem dL_set_3 : decode cL_set 3 = .ok (.iload_n 1, 1) := by decide +kernel
theorem dL_set_4 : decode cL_set 4 = .ok (.invokevirtual 36, 3) := by decide +kernel
theorem dL_set_7 : decode cL_set 7 = .ok (.i2l, 1) := by decide +kernel
theorem dL_set_8 : decode cL_set 8 = .ok (.lastore, 1) := by decide +kernel
theorem dL_set_9 : decode cL_set 9 = .ok (.goto 6, 3) := by decide +kernel
theorem dL_set_12 : decode cL_set 12 = .ok (.astore_n 3, 1) := by decide +kernel
theorem dL_set_13 : decode cL_set 13 = .ok (.iconst 1, 1) := by decide +kernel
theorem dL_set_14 : decode cL_set 14 = .ok (.ireturn, 1) := by decide +kernel
theorem dL_set_15 : decode cL_set 15 = .ok (.iconst 0, 1) := by decide +kernel
theorem dL_set_16 : decode cL_set 16 = .ok (.ireturn, 1) := by decide +kernel
theorem dL_append_0 : decode cL_append 0 = .ok (.aload_n 2, 1) := by decide +kernel
theorem dL_append_1 : decode cL_append 1 = .ok (.iconst 0, 1) := by decide +kernel
theorem dL_append_2 : decode cL_append 2 = .ok (.aload_n 0, 1) := by decide +kernel
theorem dL_append_3 : decode cL_append 3 = .ok (.iload_n 1, 1) := by decide +kernel
theorem dL_append_4 : decode cL_append 4 = .ok (.invokevirtual 39, 3) := by decide +kernel
theorem dL_append_7 : decode cL_append 7 = .ok (.i2l, 1) := by decide +kernel
theorem dL_append_8 : decode cL_append 8 = .ok (.lastore, 1) := by decide +kernel
theorem dL_append_9 : decode cL_append 9 = .ok (.goto 9, 3) := by decide +kernel
theorem dL_append_12 : decode cL_append 12 = .ok (.astore_n 3, 1) := by decide +kernel
theorem dL_append_13 : decode cL_append 13 = .ok (.iconst 1, 1) := by decide +kernel
theorem dL_append_14 : decode cL_append 14 = .ok (.ireturn, 1) := by decide +kernel
theorem dL_append_15 : decode cL_append 15 = .ok (.astore_n 3, 1) := by decide +kernel
theorem dL_append_16 : decode cL_append 16 = .ok (.iconst 2, 1) := by decide +kernel
theorem dL_append_17 : decode cL_append 17 = .ok (.ireturn, 1) := by decide +kernel
theorem dL_append_18 : decode cL_append 18 = .ok (.iconst 0, 1) := by decide +kernel
theorem dL_append_19 : decode cL_append 19 = .ok (.ireturn, 1) := by decide +kernel
theorem dL_undo_0 : decode cL_undo 0 = .ok (.aload_n 1, 1) := by decide +kernel
theorem dL_undo_1 : decode cL_undo 1 = .ok (.iconst 0, 1) := by decide +kernel
theorem dL_undo_2 : decode cL_undo 2 = .ok (.aload_n 0, 1) := by decide +kernel
theorem dL_undo_3 : decode cL_undo 3 = .ok (.invokevirtual 42, 3) := by decide +kernel
theorem dL_undo_6 : decode cL_undo 6 = .ok (.i2l, 1) := by decide +kernel
theorem dL_undo_7 : decode cL_undo 7 = .ok (.lastore, 1) := by decide +kernel
theorem dL_undo_8 : decode cL_undo 8 = .ok (.goto 6, 3) := by decide +kernel
theorem dL_undo_11 : decode cL_undo 11 = .ok (.astore_n 2, 1) := by decide +kernel
theorem dL_undo_12 : decode cL_undo 12 = .ok (.iconst 1, 1) := by decide +kernel
theorem dL_undo_13 : decode cL_undo 13 = .ok (.ireturn, 1) := by decide +kernel
theorem dL_undo_14 : decode cL_undo 14 = .ok (.iconst 0, 1) := by decide +kernel
theorem dL_undo_15 : decode cL_undo 15 = .ok (.ireturn, 1) := by decide +kernel
theorem dL_day_0 : decode cL_day 0 = .ok (.aload 4, 2) := by decide +kernel
theorem dL_day_2 : decode cL_day 2 = .ok (.iconst 0, 1) := by decide +kernel
theorem dL_day_3 : decode cL_day 3 = .ok (.aload_n 0, 1) := by decide +kernel
theorem dL_day_4 : decode cL_day 4 = .ok (.iload_n 1, 1) := by decide +kernel
theorem dL_day_5 : decode cL_day 5 = .ok (.iload_n 2, 1) := by decide +kernel
theorem dL_day_6 : decode cL_day 6 = .ok (.iload_n 3, 1) := by decide +kernel
theorem dL_day_7 : decode cL_day 7 = .ok (.invokevirtual 45, 3) := by decide +kernel
theorem dL_day_10 : decode cL_day 10 = .ok (.i2l, 1) := by decide +kernel
theorem dL_day_11 : decode cL_day 11 = .ok (.lastore, 1) := by decide +kernel
theorem dL_day_12 : decode cL_day 12 = .ok (.goto 7, 3) := by decide +kernel
theorem dL_day_15 : decode cL_day 15 = .ok (.astore 5, 2) := by decide +kernel
theorem dL_day_17 : decode cL_day 17 = .ok (.iconst 1, 1) := by decide +kernel
theorem dL_day_18 : decode cL_day 18 = .ok (.ireturn, 1) := by decide +kernel
theorem dL_day_19 : decode cL_day 19 = .ok (.iconst 0, 1) := by decide +kernel
theorem dL_day_20 : decode cL_day 20 = .ok (.ireturn, 1) := by decide +kernel
theorem dL_feast_0 : decode cL_feast 0 = .ok (.aload_n 3, 1) := by decide +kernel
theorem dL_feast_1 : decode cL_feast 1 = .ok (.iconst 0, 1) := by decide +kernel
theorem dL_feast_2 : decode cL_feast 2 = .ok (.aload_n 0, 1) := by decide +kernel
theorem dL_feast_3 : decode cL_feast 3 = .ok (.iload_n 1, 1) := by decide +kernel
theorem dL_feast_4 : decode cL_feast 4 = .ok (.iload_n 2, 1) := by decide +kernel
theorem dL_feast_5 : decode cL_feast 5 = .ok (.invokevirtual 49, 3) := by decide +kernel
theorem dL_feast_8 : decode cL_feast 8 = .ok (.i2l, 1) := by decide +kernel
theorem dL_feast_9 : decode cL_feast 9 = .ok (.lastore, 1) := by decide +kernel
theorem dL_feast_10 : decode cL_feast 10 = .ok (.goto 11, 3) := by decide +kernel
theorem dL_feast_13 : decode cL_feast 13 = .ok (.astore 4, 2) := by decide +kernel
theorem dL_feast_15 : decode cL_feast 15 = .ok (.iconst 1, 1) := by decide +kernel
theorem dL_feast_16 : decode cL_feast 16 = .ok (.ireturn, 1) := by decide +kernel
theorem dL_feast_17 : decode cL_feast 17 = .ok (.astore 4, 2) := by decide +kernel
theorem dL_feast_19 : decode cL_feast 19 = .ok (.iconst 2, 1) := by decide +kernel
theorem dL_feast_20 : decode cL_feast 20 = .ok (.ireturn, 1) := by decide +kernel
theorem dL_feast_21 : decode cL_feast 21 = .ok (.iconst 0, 1) := by decide +kernel
theorem dL_feast_22 : decode cL_feast 22 = .ok (.ireturn, 1) := by decide +kernel
theorem dL_when_0 : decode cL_when 0 = .ok (.aload 5, 2) := by decide +kernel
theorem dL_when_2 : decode cL_when 2 = .ok (.iconst 0, 1) := by decide +kernel
theorem dL_when_3 : decode cL_when 3 = .ok (.aload_n 0, 1) := by decide +kernel
theorem dL_when_4 : decode cL_when 4 = .ok (.iload_n 1, 1) := by decide +kernel
theorem dL_when_5 : decode cL_when 5 = .ok (.iload_n 2, 1) := by decide +kernel
theorem dL_when_6 : decode cL_when 6 = .ok (.iload_n 3, 1) := by decide +kernel
theorem dL_when_7 : decode cL_when 7 = .ok (.iload 4, 2) := by decide +kernel
theorem dL_when_9 : decode cL_when 9 = .ok (.invokevirtual 52, 3) := by decide +kernel
theorem dL_when_12 : decode cL_when 12 = .ok (.i2l, 1) := by decide +kernel
theorem dL_when_13 : decode cL_when 13 = .ok (.lastore, 1) := by decide +kernel
theorem dL_when_14 : decode cL_when 14 = .ok (.goto 11, 3) := by decide +kernel
theorem dL_when_17 : decode cL_when 17 = .ok (.astore 6, 2) := by decide +kernel
theorem dL_when_19 : decode cL_when 19 = .ok (.iconst 1, 1) := by decide +kernel
theorem dL_when_20 : decode cL_when 20 = .ok (.ireturn, 1) := by decide +kernel
theorem dL_when_21 : decode cL_when 21 = .ok (.astore 6, 2) := by decide +kernel
theorem dL_when_23 : decode cL_when 23 = .ok (.iconst 2, 1) := by decide +kernel
theorem dL_when_24 : decode cL_when 24 = .ok (.ireturn, 1) := by decide +kernel
theorem dL_when_25 : decode cL_when 25 = .ok (.iconst 0, 1) := by decide +kernel
theorem dL_when_26 : decode cL_when 26 = .ok (.ireturn, 1) := by decide +kernel
theorem dL_settled_0 : decode cL_settled 0 = .ok (.aload_n 3, 1) := by decide +kernel
theorem dL_settled_1 : decode cL_settled 1 = .ok (.iconst 0, 1) := by decide +kernel
theorem dL_settled_2 : decode cL_settled 2 = .ok (.aload_n 0, 1) := by decide +kernel
theorem dL_settled_3 : decode cL_settled 3 = .ok (.iload_n 1, 1) := by decide +kernel
theorem dL_settled_4 : decode cL_settled 4 = .ok (.iload_n 2, 1) := by decide +kernel
theorem dL_settled_5 : decode cL_settled 5 = .ok (.invokevirtual 56, 3) := by decide +kernel
theorem dL_settled_8 : decode cL_settled 8 = .ok (.i2l, 1) := by decide +kernel
theorem dL_settled_9 : decode cL_settled 9 = .ok (.lastore, 1) := by decide +kernel
theorem dL_settled_10 : decode cL_settled 10 = .ok (.goto 11, 3) := by decide +kernel
theorem dL_settled_13 : decode cL_settled 13 = .ok (.astore 4, 2) := by decide +kernel
theorem dL_settled_15 : decode cL_settled 15 = .ok (.iconst 1, 1) := by decide +kernel
theorem dL_settled_16 : decode cL_settled 16 = .ok (.ireturn, 1) := by decide +kernel
theorem dL_settled_17 : decode cL_settled 17 = .ok (.astore 4, 2) := by decide +kernel
theorem dL_settled_19 : decode cL_settled 19 = .ok (.iconst 2, 1) := by decide +kernel
theorem dL_settled_20 : decode cL_settled 20 = .ok (.ireturn, 1) := by decide +kernel
theorem dL_settled_21 : decode cL_settled 21 = .ok (.iconst 0, 1) := by decide +kernel
theorem dL_settled_22 : decode cL_settled 22 = .ok (.ireturn, 1) := by decide +kernel
theorem dL_quarrels_0 : decode cL_quarrels 0 = .ok (.aload_n 2, 1) := by decide +kernel
theorem dL_quarrels_1 : decode cL_quarrels 1 = .ok (.iconst 0, 1) := by decide +kernel
theorem dL_quarrels_2 : decode cL_quarrels 2 = .ok (.aload_n 0, 1) := by decide +kernel
theorem dL_quarrels_3 : decode cL_quarrels 3 = .ok (.iload_n 1, 1) := by decide +kernel
theorem dL_quarrels_4 : decode cL_quarrels 4 = .ok (.invokevirtual 59, 3) := by decide +kernel
theorem dL_quarrels_7 : decode cL_quarrels 7 = .ok (.i2l, 1) := by decide +kernel
theorem dL_quarrels_8 : decode cL_quarrels 8 = .ok (.lastore, 1) := by decide +kernel
theorem dL_quarrels_9 : decode cL_quarrels 9 = .ok (.goto 6, 3) := by decide +kernel
theorem dL_quarrels_12 : decode cL_quarrels 12 = .ok (.astore_n 3, 1) := by decide +kernel
theorem dL_quarrels_13 : decode cL_quarrels 13 = .ok (.iconst 1, 1) := by decide +kernel
theorem dL_quarrels_14 : decode cL_quarrels 14 = .ok (.ireturn, 1) := by decide +kernel
theorem dL_quarrels_15 : decode cL_quarrels 15 = .ok (.iconst 0, 1) := by decide +kernel
theorem dL_quarrels_16 : decode cL_quarrels 16 = .ok (.ireturn, 1) := by decide +kernel
theorem dL_stick_0 : decode cL_stick 0 = .ok (.aload_n 3, 1) := by decide +kernel
theorem dL_stick_1 : decode cL_stick 1 = .ok (.iconst 0, 1) := by decide +kernel
theorem dL_stick_2 : decode cL_stick 2 = .ok (.aload_n 0, 1) := by decide +kernel
theorem dL_stick_3 : decode cL_stick 3 = .ok (.iload_n 1, 1) := by decide +kernel
theorem dL_stick_4 : decode cL_stick 4 = .ok (.iload_n 2, 1) := by decide +kernel
theorem dL_stick_5 : decode cL_stick 5 = .ok (.invokevirtual 62, 3) := by decide +kernel
theorem dL_stick_8 : decode cL_stick 8 = .ok (.i2l, 1) := by decide +kernel
theorem dL_stick_9 : decode cL_stick 9 = .ok (.lastore, 1) := by decide +kernel
theorem dL_stick_10 : decode cL_stick 10 = .ok (.goto 11, 3) := by decide +kernel
theorem dL_stick_13 : decode cL_stick 13 = .ok (.astore 4, 2) := by decide +kernel
theorem dL_stick_15 : decode cL_stick 15 = .ok (.iconst 1, 1) := by decide +kernel
theorem dL_stick_16 : decode cL_stick 16 = .ok (.ireturn, 1) := by decide +kernel
theorem dL_stick_17 : decode cL_stick 17 = .ok (.astore 4, 2) := by decide +kernel
theorem dL_stick_19 : decode cL_stick 19 = .ok (.iconst 2, 1) := by decide +kernel
theorem dL_stick_20 : decode cL_stick 20 = .ok (.ireturn, 1) := by decide +kernel
theorem dL_stick_21 : decode cL_stick 21 = .ok (.iconst 0, 1) := by decide +kernel
theorem dL_stick_22 : decode cL_stick 22 = .ok (.ireturn, 1) := by decide +kernel
theorem dL_count_0 : decode cL_count 0 = .ok (.aload_n 2, 1) := by decide +kernel
theorem dL_count_1 : decode cL_count 1 = .ok (.iconst 0, 1) := by decide +kernel
theorem dL_count_2 : decode cL_count 2 = .ok (.aload_n 0, 1) := by decide +kernel
theorem dL_count_3 : decode cL_count 3 = .ok (.iload_n 1, 1) := by decide +kernel
theorem dL_count_4 : decode cL_count 4 = .ok (.invokevirtual 65, 3) := by decide +kernel
theorem dL_count_7 : decode cL_count 7 = .ok (.i2l, 1) := by decide +kernel
theorem dL_count_8 : decode cL_count 8 = .ok (.lastore, 1) := by decide +kernel
theorem dL_count_9 : decode cL_count 9 = .ok (.goto 6, 3) := by decide +kernel
theorem dL_count_12 : decode cL_count 12 = .ok (.astore_n 3, 1) := by decide +kernel
theorem dL_count_13 : decode cL_count 13 = .ok (.iconst 1, 1) := by decide +kernel
theorem dL_count_14 : decode cL_count 14 = .ok (.ireturn, 1) := by decide +kernel
theorem dL_count_15 : decode cL_count 15 = .ok (.iconst 0, 1) := by decide +kernel
theorem dL_count_16 : decode cL_count 16 = .ok (.ireturn, 1) := by decide +kernel
theorem dL_range_0 : decode cL_range 0 = .ok (.aload 5, 2) := by decide +kernel
theorem dL_range_2 : decode cL_range 2 = .ok (.iconst 0, 1) := by decide +kernel
theorem dL_range_3 : decode cL_range 3 = .ok (.aload_n 0, 1) := by decide +kernel
theorem dL_range_4 : decode cL_range 4 = .ok (.iload_n 1, 1) := by decide +kernel
theorem dL_range_5 : decode cL_range 5 = .ok (.iload_n 2, 1) := by decide +kernel
theorem dL_range_6 : decode cL_range 6 = .ok (.iload_n 3, 1) := by decide +kernel
theorem dL_range_7 : decode cL_range 7 = .ok (.iload 4, 2) := by decide +kernel
theorem dL_range_9 : decode cL_range 9 = .ok (.invokevirtual 68, 3) := by decide +kernel
theorem dL_range_12 : decode cL_range 12 = .ok (.i2l, 1) := by decide +kernel
theorem dL_range_13 : decode cL_range 13 = .ok (.lastore, 1) := by decide +kernel
theorem dL_range_14 : decode cL_range 14 = .ok (.goto 11, 3) := by decide +kernel
theorem dL_range_17 : decode cL_range 17 = .ok (.astore 6, 2) := by decide +kernel
theorem dL_range_19 : decode cL_range 19 = .ok (.iconst 1, 1) := by decide +kernel
theorem dL_range_20 : decode cL_range 20 = .ok (.ireturn, 1) := by decide +kernel
theorem dL_range_21 : decode cL_range 21 = .ok (.astore 6, 2) := by decide +kernel
theorem dL_range_23 : decode cL_range 23 = .ok (.iconst 2, 1) := by decide +kernel
theorem dL_range_24 : decode cL_range 24 = .ok (.ireturn, 1) := by decide +kernel
theorem dL_range_25 : decode cL_range 25 = .ok (.iconst 0, 1) := by decide +kernel
theorem dL_range_26 : decode cL_range 26 = .ok (.ireturn, 1) := by decide +kernel
theorem dL_alike_0 : decode cL_alike 0 = .ok (.aload_n 2, 1) := by decide +kernel
theorem dL_alike_1 : decode cL_alike 1 = .ok (.iconst 0, 1) := by decide +kernel
theorem dL_alike_2 : decode cL_alike 2 = .ok (.aload_n 0, 1) := by decide +kernel
theorem dL_alike_3 : decode cL_alike 3 = .ok (.iload_n 1, 1) := by decide +kernel
theorem dL_alike_4 : decode cL_alike 4 = .ok (.invokevirtual 71, 3) := by decide +kernel
theorem dL_alike_7 : decode cL_alike 7 = .ok (.i2l, 1) := by decide +kernel
theorem dL_alike_8 : decode cL_alike 8 = .ok (.lastore, 1) := by decide +kernel
theorem dL_alike_9 : decode cL_alike 9 = .ok (.goto 6, 3) := by decide +kernel
theorem dL_alike_12 : decode cL_alike 12 = .ok (.astore_n 3, 1) := by decide +kernel
theorem dL_alike_13 : decode cL_alike 13 = .ok (.iconst 1, 1) := by decide +kernel
theorem dL_alike_14 : decode cL_alike 14 = .ok (.ireturn, 1) := by decide +kernel
theorem dL_alike_15 : decode cL_alike 15 = .ok (.iconst 0, 1) := by decide +kernel
theorem dL_alike_16 : decode cL_alike 16 = .ok (.ireturn, 1) := by decide +kernel
theorem dL_peace_0 : decode cL_peace 0 = .ok (.aload_n 3, 1) := by decide +kernel
theorem dL_peace_1 : decode cL_peace 1 = .ok (.iconst 0, 1) := by decide +kernel
theorem dL_peace_2 : decode cL_peace 2 = .ok (.aload_n 0, 1) := by decide +kernel
theorem dL_peace_3 : decode cL_peace 3 = .ok (.iload_n 1, 1) := by decide +kernel
theorem dL_peace_4 : decode cL_peace 4 = .ok (.iload_n 2, 1) := by decide +kernel
theorem dL_peace_5 : decode cL_peace 5 = .ok (.invokevirtual 74, 3) := by decide +kernel
theorem dL_peace_8 : decode cL_peace 8 = .ok (.i2l, 1) := by decide +kernel
theorem dL_peace_9 : decode cL_peace 9 = .ok (.lastore, 1) := by decide +kernel
theorem dL_peace_10 : decode cL_peace 10 = .ok (.goto 7, 3) := by decide +kernel
theorem dL_peace_13 : decode cL_peace 13 = .ok (.astore 4, 2) := by decide +kernel
theorem dL_peace_15 : decode cL_peace 15 = .ok (.iconst 1, 1) := by decide +kernel
theorem dL_peace_16 : decode cL_peace 16 = .ok (.ireturn, 1) := by decide +kernel
theorem dL_peace_17 : decode cL_peace 17 = .ok (.iconst 0, 1) := by decide +kernel
theorem dL_peace_18 : decode cL_peace 18 = .ok (.ireturn, 1) := by decide +kernel
theorem dL_moved_0 : decode cL_moved 0 = .ok (.aload_n 3, 1) := by decide +kernel
theorem dL_moved_1 : decode cL_moved 1 = .ok (.iconst 0, 1) := by decide +kernel
theorem dL_moved_2 : decode cL_moved 2 = .ok (.aload_n 0, 1) := by decide +kernel
theorem dL_moved_3 : decode cL_moved 3 = .ok (.iload_n 1, 1) := by decide +kernel
theorem dL_moved_4 : decode cL_moved 4 = .ok (.iload_n 2, 1) := by decide +kernel
theorem dL_moved_5 : decode cL_moved 5 = .ok (.invokevirtual 77, 3) := by decide +kernel
theorem dL_moved_8 : decode cL_moved 8 = .ok (.i2l, 1) := by decide +kernel
theorem dL_moved_9 : decode cL_moved 9 = .ok (.lastore, 1) := by decide +kernel
theorem dL_moved_10 : decode cL_moved 10 = .ok (.goto 7, 3) := by decide +kernel
theorem dL_moved_13 : decode cL_moved 13 = .ok (.astore 4, 2) := by decide +kernel
theorem dL_moved_15 : decode cL_moved 15 = .ok (.iconst 1, 1) := by decide +kernel
theorem dL_moved_16 : decode cL_moved 16 = .ok (.ireturn, 1) := by decide +kernel
theorem dL_moved_17 : decode cL_moved 17 = .ok (.iconst 0, 1) := by decide +kernel
theorem dL_moved_18 : decode cL_moved 18 = .ok (.ireturn, 1) := by decide +kernel
theorem dL_law_0 : decode cL_law 0 = .ok (.new 8, 3) := by decide +kernel
theorem dL_law_3 : decode cL_law 3 = .ok (.dup, 1) := by decide +kernel
theorem dL_law_4 : decode cL_law 4 = .ok (.invokespecial 80, 3) := by decide +kernel
theorem dL_law_7 : decode cL_law 7 = .ok (.astore_n 1, 1) := by decide +kernel
theorem dL_law_8 : decode cL_law 8 = .ok (.new 81, 3) := by decide +kernel
theorem dL_law_11 : decode cL_law 11 = .ok (.dup, 1) := by decide +kernel
theorem dL_law_12 : decode cL_law 12 = .ok (.invokespecial 83, 3) := by decide +kernel
theorem dL_law_15 : decode cL_law 15 = .ok (.astore_n 2, 1) := by decide +kernel
theorem dL_law_16 : decode cL_law 16 = .ok (.iconst 1, 1) := by decide +kernel
theorem dL_law_17 : decode cL_law 17 = .ok (.newarray .long, 2) := by decide +kernel
theorem dL_law_19 : decode cL_law 19 = .ok (.astore_n 3, 1) := by decide +kernel
theorem dL_law_20 : decode cL_law 20 = .ok (.iconst 0, 1) := by decide +kernel
theorem dL_law_21 : decode cL_law 21 = .ok (.istore 4, 2) := by decide +kernel
theorem dL_law_23 : decode cL_law 23 = .ok (.iload 4, 2) := by decide +kernel
theorem dL_law_25 : decode cL_law 25 = .ok (.aload_n 0, 1) := by decide +kernel
theorem dL_law_26 : decode cL_law 26 = .ok (.arraylength, 1) := by decide +kernel
theorem dL_law_27 : decode cL_law 27 = .ok (.iconst 5, 1) := by decide +kernel
theorem dL_law_28 : decode cL_law 28 = .ok (.isub, 1) := by decide +kernel
theorem dL_law_29 : decode cL_law 29 = .ok (.if_icmp .gt 1514, 3) := by decide +kernel
theorem dL_law_32 : decode cL_law 32 = .ok (.aload_n 0, 1) := by decide +kernel
theorem dL_law_33 : decode cL_law 33 = .ok (.iload 4, 2) := by decide +kernel
theorem dL_law_35 : decode cL_law 35 = .ok (.iaload, 1) := by decide +kernel
theorem dL_law_36 : decode cL_law 36 = .ok (.bipush 31, 2) := by decide +kernel
theorem dL_law_38 : decode cL_law 38 = .ok (.iand, 1) := by decide +kernel
theorem dL_law_39 : decode cL_law 39 = .ok (.tableswitch 1498 0 23 #[109, 153, 197, 265, 333, 401, 457, 513, 569, 582, 595, 639, 719, 787, 895, 963, 1019, 1087, 1143, 1251, 1307, 1375, 1443, 1484], 109) := by decide +kernel
theorem dL_law_148 : decode cL_law 148 = .ok (.aload_n 1, 1) := by decide +kernel
theorem dL_law_149 : decode cL_law 149 = .ok (.aload_n 3, 1) := by decide +kernel
theorem dL_law_150 : decode cL_law 150 = .ok (.invokestatic 84, 3) := by decide +kernel
theorem dL_law_153 : decode cL_law 153 = .ok (.istore 5, 2) := by decide +kernel
theorem dL_law_155 : decode cL_law 155 = .ok (.aload_n 2, 1) := by decide +kernel
theorem dL_law_156 : decode cL_law 156 = .ok (.invokevirtual 89, 3) := by decide +kernel
theorem dL_law_159 : decode cL_law 159 = .ok (.istore 6, 2) := by decide +kernel
theorem dL_law_161 : decode cL_law 161 = .ok (.aload_n 2, 1) := by decide +kernel
theorem dL_law_162 : decode cL_law 162 = .ok (.invokevirtual 90, 3) := by decide +kernel
theorem dL_law_165 : decode cL_law 165 = .ok (.iload 5, 2) := by decide +kernel
theorem dL_law_167 : decode cL_law 167 = .ok (.if_icmp .eq 5, 3) := by decide +kernel
theorem dL_law_170 : decode cL_law 170 = .ok (.iconst 0, 1) := by decide +kernel
theorem dL_law_171 : decode cL_law 171 = .ok (.ireturn, 1) := by decide +kernel
theorem dL_law_172 : decode cL_law 172 = .ok (.iload 5, 2) := by decide +kernel
theorem dL_law_174 : decode cL_law 174 = .ok (.ifCond .ne 15, 3) := by decide +kernel
theorem dL_law_177 : decode cL_law 177 = .ok (.aload_n 3, 1) := by decide +kernel
theorem dL_law_178 : decode cL_law 178 = .ok (.iconst 0, 1) := by decide +kernel
theorem dL_law_179 : decode cL_law 179 = .ok (.laload, 1) := by decide +kernel
theorem dL_law_180 : decode cL_law 180 = .ok (.iload 6, 2) := by decide +kernel
theorem dL_law_182 : decode cL_law 182 = .ok (.i2l, 1) := by decide +kernel
theorem dL_law_183 : decode cL_law 183 = .ok (.lcmp, 1) := by decide +kernel
theorem dL_law_184 : decode cL_law 184 = .ok (.ifCond .eq 5, 3) := by decide +kernel
theorem dL_law_187 : decode cL_law 187 = .ok (.iconst 0, 1) := by decide +kernel
theorem dL_law_188 : decode cL_law 188 = .ok (.ireturn, 1) := by decide +kernel
theorem dL_law_189 : decode cL_law 189 = .ok (.goto 1348, 3) := by decide +kernel
theorem dL_law_192 : decode cL_law 192 = .ok (.aload_n 1, 1) := by decide +kernel
theorem dL_law_193 : decode cL_law 193 = .ok (.aload_n 3, 1) := by decide +kernel
theorem dL_law_194 : decode cL_law 194 = .ok (.invokestatic 93, 3) := by decide +kernel
theorem dL_law_197 : decode cL_law 197 = .ok (.istore 5, 2) := by decide +kernel
theorem dL_law_199 : decode cL_law 199 = .ok (.aload_n 2, 1) := by decide +kernel
theorem dL_law_200 : decode cL_law 200 = .ok (.invokevirtual 95, 3) := by decide +kernel
theorem dL_law_203 : decode cL_law 203 = .ok (.istore 6, 2) := by decide +kernel
theorem dL_law_205 : decode cL_law 205 = .ok (.aload_n 2, 1) := by decide +kernel
theorem dL_law_206 : decode cL_law 206 = .ok (.invokevirtual 90, 3) := by decide +kernel
theorem dL_law_209 : decode cL_law 209 = .ok (.iload 5, 2) := by decide +kernel
theorem dL_law_211 : decode cL_law 211 = .ok (.if_icmp .eq 5, 3) := by decide +kernel
theorem dL_law_214 : decode cL_law 214 = .ok (.iconst 0, 1) := by decide +kernel
theorem dL_law_215 : decode cL_law 215 = .ok (.ireturn, 1) := by decide +kernel
theorem dL_law_216 : decode cL_law 216 = .ok (.iload 5, 2) := by decide +kernel
theorem dL_law_218 : decode cL_law 218 = .ok (.ifCond .ne 15, 3) := by decide +kernel
theorem dL_law_221 : decode cL_law 221 = .ok (.aload_n 3, 1) := by decide +kernel
theorem dL_law_222 : decode cL_law 222 = .ok (.iconst 0, 1) := by decide +kernel
theorem dL_law_223 : decode cL_law 223 = .ok (.laload, 1) := by decide +kernel
theorem dL_law_224 : decode cL_law 224 = .ok (.iload 6, 2) := by decide +kernel
theorem dL_law_226 : decode cL_law 226 = .ok (.i2l, 1) := by decide +kernel
theorem dL_law_227 : decode cL_law 227 = .ok (.lcmp, 1) := by decide +kernel
theorem dL_law_228 : decode cL_law 228 = .ok (.ifCond .eq 5, 3) := by decide +kernel
theorem dL_law_231 : decode cL_law 231 = .ok (.iconst 0, 1) := by decide +kernel
theorem dL_law_232 : decode cL_law 232 = .ok (.ireturn, 1) := by decide +kernel
theorem dL_law_233 : decode cL_law 233 = .ok (.goto 1304, 3) := by decide +kernel
theorem dL_law_236 : decode cL_law 236 = .ok (.aload_n 1, 1) := by decide +kernel
theorem dL_law_237 : decode cL_law 237 = .ok (.aload_n 0, 1) := by decide +kernel
theorem dL_law_238 : decode cL_law 238 = .ok (.iload 4, 2) := by decide +kernel
theorem dL_law_240 : decode cL_law 240 = .ok (.iconst 1, 1) := by decide +kernel
theorem dL_law_241 : decode cL_law 241 = .ok (.iadd, 1) := by decide +kernel
theorem dL_law_242 : decode cL_law 242 = .ok (.iaload, 1) := by decide +kernel
theorem dL_law_243 : decode cL_law 243 = .ok (.aload_n 0, 1) := by decide +kernel
theorem dL_law_244 : decode cL_law 244 = .ok (.iload 4, 2) := by decide +kernel
theorem dL_law_246 : decode cL_law 246 = .ok (.iconst 2, 1) := by decide +kernel
theorem dL_law_247 : decode cL_law 247 = .ok (.iadd, 1) := by decide +kernel
theorem dL_law_248 : decode cL_law 248 = .ok (.iaload, 1) := by decide +kernel
theorem dL_law_249 : decode cL_law 249 = .ok (.aload_n 3, 1) := by decide +kernel
theorem dL_law_250 : decode cL_law 250 = .ok (.invokestatic 96, 3) := by decide +kernel
theorem dL_law_253 : decode cL_law 253 = .ok (.istore 5, 2) := by decide +kernel
theorem dL_law_255 : decode cL_law 255 = .ok (.aload_n 2, 1) := by decide +kernel
theorem dL_law_256 : decode cL_law 256 = .ok (.aload_n 0, 1) := by decide +kernel
theorem dL_law_257 : decode cL_law 257 = .ok (.iload 4, 2) := by decide +kernel
theorem dL_law_259 : decode cL_law 259 = .ok (.iconst 1, 1) := by decide +kernel
theorem dL_law_260 : decode cL_law 260 = .ok (.iadd, 1) := by decide +kernel
theorem dL_law_261 : decode cL_law 261 = .ok (.iaload, 1) := by decide +kernel
theorem dL_law_262 : decode cL_law 262 = .ok (.aload_n 0, 1) := by decide +kernel
theorem dL_law_263 : decode cL_law 263 = .ok (.iload 4, 2) := by decide +kernel
theorem dL_law_265 : decode cL_law 265 = .ok (.iconst 2, 1) := by decide +kernel
theorem dL_law_266 : decode cL_law 266 = .ok (.iadd, 1) := by decide +kernel
theorem dL_law_267 : decode cL_law 267 = .ok (.iaload, 1) := by decide +kernel
theorem dL_law_268 : decode cL_law 268 = .ok (.invokevirtual 99, 3) := by decide +kernel
theorem dL_law_271 : decode cL_law 271 = .ok (.istore 6, 2) := by decide +kernel
theorem dL_law_273 : decode cL_law 273 = .ok (.aload_n 2, 1) := by decide +kernel
theorem dL_law_274 : decode cL_law 274 = .ok (.invokevirtual 90, 3) := by decide +kernel
theorem dL_law_277 : decode cL_law 277 = .ok (.iload 5, 2) := by decide +kernel
theorem dL_law_279 : decode cL_law 279 = .ok (.if_icmp .eq 5, 3) := by decide +kernel
theorem dL_law_282 : decode cL_law 282 = .ok (.iconst 0, 1) := by decide +kernel
theorem dL_law_283 : decode cL_law 283 = .ok (.ireturn, 1) := by decide +kernel
theorem dL_law_284 : decode cL_law 284 = .ok (.iload 5, 2) := by decide +kernel
theorem dL_law_286 : decode cL_law 286 = .ok (.ifCond .ne 15, 3) := by decide +kernel
theorem dL_law_289 : decode cL_law 289 = .ok (.aload_n 3, 1) := by decide +kernel
theorem dL_law_290 : decode cL_law 290 = .ok (.iconst 0, 1) := by decide +kernel
theorem dL_law_291 : decode cL_law 291 = .ok (.laload, 1) := by decide +kernel
theorem dL_law_292 : decode cL_law 292 = .ok (.iload 6, 2) := by decide +kernel
theorem dL_law_294 : decode cL_law 294 = .ok (.i2l, 1) := by decide +kernel
theorem dL_law_295 : decode cL_law 295 = .ok (.lcmp, 1) := by decide +kernel
theorem dL_law_296 : decode cL_law 296 = .ok (.ifCond .eq 5, 3) := by decide +kernel
theorem dL_law_299 : decode cL_law 299 = .ok (.iconst 0, 1) := by decide +kernel
theorem dL_law_300 : decode cL_law 300 = .ok (.ireturn, 1) := by decide +kernel
theorem dL_law_301 : decode cL_law 301 = .ok (.goto 1236, 3) := by decide +kernel
theorem dL_law_304 : decode cL_law 304 = .ok (.aload_n 1, 1) := by decide +kernel
theorem dL_law_305 : decode cL_law 305 = .ok (.aload_n 0, 1) := by decide +kernel
theorem dL_law_306 : decode cL_law 306 = .ok (.iload 4, 2) := by decide +kernel
theorem dL_law_308 : decode cL_law 308 = .ok (.iconst 1, 1) := by decide +kernel
theorem dL_law_309 : decode cL_law 309 = .ok (.iadd, 1) := by decide +kernel
theorem dL_law_310 : decode cL_law 310 = .ok (.iaload, 1) := by decide +kernel
theorem dL_law_311 : decode cL_law 311 = .ok (.aload_n 0, 1) := by decide +kernel
theorem dL_law_312 : decode cL_law 312 = .ok (.iload 4, 2) := by decide +kernel
theorem dL_law_314 : decode cL_law 314 = .ok (.iconst 2, 1) := by decide +kernel
theorem dL_law_315 : decode cL_law 315 = .ok (.iadd, 1) := by decide +kernel
theorem dL_law_316 : decode cL_law 316 = .ok (.iaload, 1) := by decide +kernel
theorem dL_law_317 : decode cL_law 317 = .ok (.aload_n 3, 1) := by decide +kernel
theorem dL_law_318 : decode cL_law 318 = .ok (.invokestatic 100, 3) := by decide +kernel
theorem dL_law_321 : decode cL_law 321 = .ok (.istore 5, 2) := by decide +kernel
theorem dL_law_323 : decode cL_law 323 = .ok (.aload_n 2, 1) := by decide +kernel
theorem dL_law_324 : decode cL_law 324 = .ok (.aload_n 0, 1) := by decide +kernel
theorem dL_law_325 : decode cL_law 325 = .ok (.iload 4, 2) := by decide +kernel
theorem dL_law_327 : decode cL_law 327 = .ok (.iconst 1, 1) := by decide +kernel
theorem dL_law_328 : decode cL_law 328 = .ok (.iadd, 1) := by decide +kernel
theorem dL_law_329 : decode cL_law 329 = .ok (.iaload, 1) := by decide +kernel
theorem dL_law_330 : decode cL_law 330 = .ok (.aload_n 0, 1) := by decide +kernel
theorem dL_law_331 : decode cL_law 331 = .ok (.iload 4, 2) := by decide +kernel
theorem dL_law_333 : decode cL_law 333 = .ok (.iconst 2, 1) := by decide +kernel
theorem dL_law_334 : decode cL_law 334 = .ok (.iadd, 1) := by decide +kernel
theorem dL_law_335 : decode cL_law 335 = .ok (.iaload, 1) := by decide +kernel
theorem dL_law_336 : decode cL_law 336 = .ok (.invokevirtual 102, 3) := by decide +kernel
theorem dL_law_339 : decode cL_law 339 = .ok (.istore 6, 2) := by decide +kernel
theorem dL_law_341 : decode cL_law 341 = .ok (.aload_n 2, 1) := by decide +kernel
theorem dL_law_342 : decode cL_law 342 = .ok (.invokevirtual 90, 3) := by decide +kernel
theorem dL_law_345 : decode cL_law 345 = .ok (.iload 5, 2) := by decide +kernel
theorem dL_law_347 : decode cL_law 347 = .ok (.if_icmp .eq 5, 3) := by decide +kernel
theorem dL_law_350 : decode cL_law 350 = .ok (.iconst 0, 1) := by decide +kernel
theorem dL_law_351 : decode cL_law 351 = .ok (.ireturn, 1) := by decide +kernel
theorem dL_law_352 : decode cL_law 352 = .ok (.iload 5, 2) := by decide +kernel
theorem dL_law_354 : decode cL_law 354 = .ok (.ifCond .ne 15, 3) := by decide +kernel
theorem dL_law_357 : decode cL_law 357 = .ok (.aload_n 3, 1) := by decide +kernel
theorem dL_law_358 : decode cL_law 358 = .ok (.iconst 0, 1) := by decide +kernel
theorem dL_law_359 : decode cL_law 359 = .ok (.laload, 1) := by decide +kernel
theorem dL_law_360 : decode cL_law 360 = .ok (.iload 6, 2) := by decide +kernel
theorem dL_law_362 : decode cL_law 362 = .ok (.i2l, 1) := by decide +kernel
theorem dL_law_363 : decode cL_law 363 = .ok (.lcmp, 1) := by decide +kernel
theorem dL_law_364 : decode cL_law 364 = .ok (.ifCond .eq 5, 3) := by decide +kernel
theorem dL_law_367 : decode cL_law 367 = .ok (.iconst 0, 1) := by decide +kernel
theorem dL_law_368 : decode cL_law 368 = .ok (.ireturn, 1) := by decide +kernel
theorem dL_law_369 : decode cL_law 369 = .ok (.goto 1168, 3) := by decide +kernel
theorem dL_law_372 : decode cL_law 372 = .ok (.aload_n 1, 1) := by decide +kernel
theorem dL_law_373 : decode cL_law 373 = .ok (.aload_n 0, 1) := by decide +kernel
theorem dL_law_374 : decode cL_law 374 = .ok (.iload 4, 2) := by decide +kernel
theorem dL_law_376 : decode cL_law 376 = .ok (.iconst 1, 1) := by decide +kernel
theorem dL_law_377 : decode cL_law 377 = .ok (.iadd, 1) := by decide +kernel
theorem dL_law_378 : decode cL_law 378 = .ok (.iaload, 1) := by decide +kernel
theorem dL_law_379 : decode cL_law 379 = .ok (.aload_n 0, 1) := by decide +kernel
theorem dL_law_380 : decode cL_law 380 = .ok (.iload 4, 2) := by decide +kernel
theorem dL_law_382 : decode cL_law 382 = .ok (.iconst 2, 1) := by decide +kernel
theorem dL_law_383 : decode cL_law 383 = .ok (.iadd, 1) := by decide +kernel
theorem dL_law_384 : decode cL_law 384 = .ok (.iaload, 1) := by decide +kernel
theorem dL_law_385 : decode cL_law 385 = .ok (.aload_n 3, 1) := by decide +kernel
theorem dL_law_386 : decode cL_law 386 = .ok (.invokestatic 103, 3) := by decide +kernel
theorem dL_law_389 : decode cL_law 389 = .ok (.istore 5, 2) := by decide +kernel
theorem dL_law_391 : decode cL_law 391 = .ok (.aload_n 2, 1) := by decide +kernel
theorem dL_law_392 : decode cL_law 392 = .ok (.aload_n 0, 1) := by decide +kernel
theorem dL_law_393 : decode cL_law 393 = .ok (.iload 4, 2) := by decide +kernel
theorem dL_law_395 : decode cL_law 395 = .ok (.iconst 1, 1) := by decide +kernel
theorem dL_law_396 : decode cL_law 396 = .ok (.iadd, 1) := by decide +kernel
theorem dL_law_397 : decode cL_law 397 = .ok (.iaload, 1) := by decide +kernel
theorem dL_law_398 : decode cL_law 398 = .ok (.aload_n 0, 1) := by decide +kernel
theorem dL_law_399 : decode cL_law 399 = .ok (.iload 4, 2) := by decide +kernel
theorem dL_law_401 : decode cL_law 401 = .ok (.iconst 2, 1) := by decide +kernel
theorem dL_law_402 : decode cL_law 402 = .ok (.iadd, 1) := by decide +kernel
theorem dL_law_403 : decode cL_law 403 = .ok (.iaload, 1) := by decide +kernel
theorem dL_law_404 : decode cL_law 404 = .ok (.invokevirtual 105, 3) := by decide +kernel
theorem dL_law_407 : decode cL_law 407 = .ok (.istore 6, 2) := by decide +kernel
theorem dL_law_409 : decode cL_law 409 = .ok (.aload_n 2, 1) := by decide +kernel
theorem dL_law_410 : decode cL_law 410 = .ok (.invokevirtual 90, 3) := by decide +kernel
theorem dL_law_413 : decode cL_law 413 = .ok (.iload 5, 2) := by decide +kernel
theorem dL_law_415 : decode cL_law 415 = .ok (.if_icmp .eq 5, 3) := by decide +kernel
theorem dL_law_418 : decode cL_law 418 = .ok (.iconst 0, 1) := by decide +kernel
theorem dL_law_419 : decode cL_law 419 = .ok (.ireturn, 1) := by decide +kernel
theorem dL_law_420 : decode cL_law 420 = .ok (.iload 5, 2) := by decide +kernel
theorem dL_law_422 : decode cL_law 422 = .ok (.ifCond .ne 15, 3) := by decide +kernel
theorem dL_law_425 : decode cL_law 425 = .ok (.aload_n 3, 1) := by decide +kernel
theorem dL_law_426 : decode cL_law 426 = .ok (.iconst 0, 1) := by decide +kernel
theorem dL_law_427 : decode cL_law 427 = .ok (.laload, 1) := by decide +kernel
theorem dL_law_428 : decode cL_law 428 = .ok (.iload 6, 2) := by decide +kernel
theorem dL_law_430 : decode cL_law 430 = .ok (.i2l, 1) := by decide +kernel
theorem dL_law_431 : decode cL_law 431 = .ok (.lcmp, 1) := by decide +kernel
theorem dL_law_432 : decode cL_law 432 = .ok (.ifCond .eq 5, 3) := by decide +kernel
theorem dL_law_435 : decode cL_law 435 = .ok (.iconst 0, 1) := by decide +kernel
theorem dL_law_436 : decode cL_law 436 = .ok (.ireturn, 1) := by decide +kernel
theorem dL_law_437 : decode cL_law 437 = .ok (.goto 1100, 3) := by decide +kernel
theorem dL_law_440 : decode cL_law 440 = .ok (.aload_n 1, 1) := by decide +kernel
theorem dL_law_441 : decode cL_law 441 = .ok (.aload_n 0, 1) := by decide +kernel
theorem dL_law_442 : decode cL_law 442 = .ok (.iload 4, 2) := by decide +kernel
theorem dL_law_444 : decode cL_law 444 = .ok (.iconst 1, 1) := by decide +kernel
theorem dL_law_445 : decode cL_law 445 = .ok (.iadd, 1) := by decide +kernel
theorem dL_law_446 : decode cL_law 446 = .ok (.iaload, 1) := by decide +kernel
theorem dL_law_447 : decode cL_law 447 = .ok (.aload_n 3, 1) := by decide +kernel
theorem dL_law_448 : decode cL_law 448 = .ok (.invokestatic 106, 3) := by decide +kernel
theorem dL_law_451 : decode cL_law 451 = .ok (.istore 5, 2) := by decide +kernel
theorem dL_law_453 : decode cL_law 453 = .ok (.aload_n 2, 1) := by decide +kernel
theorem dL_law_454 : decode cL_law 454 = .ok (.aload_n 0, 1) := by decide +kernel
theorem dL_law_455 : decode cL_law 455 = .ok (.iload 4, 2) := by decide +kernel
theorem dL_law_457 : decode cL_law 457 = .ok (.iconst 1, 1) := by decide +kernel
theorem dL_law_458 : decode cL_law 458 = .ok (.iadd, 1) := by decide +kernel
theorem dL_law_459 : decode cL_law 459 = .ok (.iaload, 1) := by decide +kernel
theorem dL_law_460 : decode cL_law 460 = .ok (.invokevirtual 109, 3) := by decide +kernel
theorem dL_law_463 : decode cL_law 463 = .ok (.istore 6, 2) := by decide +kernel
theorem dL_law_465 : decode cL_law 465 = .ok (.aload_n 2, 1) := by decide +kernel
theorem dL_law_466 : decode cL_law 466 = .ok (.invokevirtual 90, 3) := by decide +kernel
theorem dL_law_469 : decode cL_law 469 = .ok (.iload 5, 2) := by decide +kernel
theorem dL_law_471 : decode cL_law 471 = .ok (.if_icmp .eq 5, 3) := by decide +kernel
theorem dL_law_474 : decode cL_law 474 = .ok (.iconst 0, 1) := by decide +kernel
theorem dL_law_475 : decode cL_law 475 = .ok (.ireturn, 1) := by decide +kernel
theorem dL_law_476 : decode cL_law 476 = .ok (.iload 5, 2) := by decide +kernel
theorem dL_law_478 : decode cL_law 478 = .ok (.ifCond .ne 15, 3) := by decide +kernel
theorem dL_law_481 : decode cL_law 481 = .ok (.aload_n 3, 1) := by decide +kernel
theorem dL_law_482 : decode cL_law 482 = .ok (.iconst 0, 1) := by decide +kernel
theorem dL_law_483 : decode cL_law 483 = .ok (.laload, 1) := by decide +kernel
theorem dL_law_484 : decode cL_law 484 = .ok (.iload 6, 2) := by decide +kernel
theorem dL_law_486 : decode cL_law 486 = .ok (.i2l, 1) := by decide +kernel
theorem dL_law_487 : decode cL_law 487 = .ok (.lcmp, 1) := by decide +kernel
theorem dL_law_488 : decode cL_law 488 = .ok (.ifCond .eq 5, 3) := by decide +kernel
theorem dL_law_491 : decode cL_law 491 = .ok (.iconst 0, 1) := by decide +kernel
theorem dL_law_492 : decode cL_law 492 = .ok (.ireturn, 1) := by decide +kernel
theorem dL_law_493 : decode cL_law 493 = .ok (.goto 1044, 3) := by decide +kernel
theorem dL_law_496 : decode cL_law 496 = .ok (.aload_n 1, 1) := by decide +kernel
theorem dL_law_497 : decode cL_law 497 = .ok (.aload_n 0, 1) := by decide +kernel
theorem dL_law_498 : decode cL_law 498 = .ok (.iload 4, 2) := by decide +kernel
theorem dL_law_500 : decode cL_law 500 = .ok (.iconst 1, 1) := by decide +kernel
theorem dL_law_501 : decode cL_law 501 = .ok (.iadd, 1) := by decide +kernel
theorem dL_law_502 : decode cL_law 502 = .ok (.iaload, 1) := by decide +kernel
theorem dL_law_503 : decode cL_law 503 = .ok (.aload_n 3, 1) := by decide +kernel
theorem dL_law_504 : decode cL_law 504 = .ok (.invokestatic 110, 3) := by decide +kernel
theorem dL_law_507 : decode cL_law 507 = .ok (.istore 5, 2) := by decide +kernel
theorem dL_law_509 : decode cL_law 509 = .ok (.aload_n 2, 1) := by decide +kernel
theorem dL_law_510 : decode cL_law 510 = .ok (.aload_n 0, 1) := by decide +kernel
theorem dL_law_511 : decode cL_law 511 = .ok (.iload 4, 2) := by decide +kernel
theorem dL_law_513 : decode cL_law 513 = .ok (.iconst 1, 1) := by decide +kernel
theorem dL_law_514 : decode cL_law 514 = .ok (.iadd, 1) := by decide +kernel
theorem dL_law_515 : decode cL_law 515 = .ok (.iaload, 1) := by decide +kernel
theorem dL_law_516 : decode cL_law 516 = .ok (.invokevirtual 112, 3) := by decide +kernel
theorem dL_law_519 : decode cL_law 519 = .ok (.istore 6, 2) := by decide +kernel
theorem dL_law_521 : decode cL_law 521 = .ok (.aload_n 2, 1) := by decide +kernel
theorem dL_law_522 : decode cL_law 522 = .ok (.invokevirtual 90, 3) := by decide +kernel
theorem dL_law_525 : decode cL_law 525 = .ok (.iload 5, 2) := by decide +kernel
theorem dL_law_527 : decode cL_law 527 = .ok (.if_icmp .eq 5, 3) := by decide +kernel
theorem dL_law_530 : decode cL_law 530 = .ok (.iconst 0, 1) := by decide +kernel
theorem dL_law_531 : decode cL_law 531 = .ok (.ireturn, 1) := by decide +kernel
theorem dL_law_532 : decode cL_law 532 = .ok (.iload 5, 2) := by decide +kernel
theorem dL_law_534 : decode cL_law 534 = .ok (.ifCond .ne 15, 3) := by decide +kernel
theorem dL_law_537 : decode cL_law 537 = .ok (.aload_n 3, 1) := by decide +kernel
theorem dL_law_538 : decode cL_law 538 = .ok (.iconst 0, 1) := by decide +kernel
theorem dL_law_539 : decode cL_law 539 = .ok (.laload, 1) := by decide +kernel
theorem dL_law_540 : decode cL_law 540 = .ok (.iload 6, 2) := by decide +kernel
theorem dL_law_542 : decode cL_law 542 = .ok (.i2l, 1) := by decide +kernel
theorem dL_law_543 : decode cL_law 543 = .ok (.lcmp, 1) := by decide +kernel
theorem dL_law_544 : decode cL_law 544 = .ok (.ifCond .eq 5, 3) := by decide +kernel
theorem dL_law_547 : decode cL_law 547 = .ok (.iconst 0, 1) := by decide +kernel
theorem dL_law_548 : decode cL_law 548 = .ok (.ireturn, 1) := by decide +kernel
theorem dL_law_549 : decode cL_law 549 = .ok (.goto 988, 3) := by decide +kernel
theorem dL_law_552 : decode cL_law 552 = .ok (.aload_n 1, 1) := by decide +kernel
theorem dL_law_553 : decode cL_law 553 = .ok (.aload_n 0, 1) := by decide +kernel
theorem dL_law_554 : decode cL_law 554 = .ok (.iload 4, 2) := by decide +kernel
theorem dL_law_556 : decode cL_law 556 = .ok (.iconst 1, 1) := by decide +kernel
theorem dL_law_557 : decode cL_law 557 = .ok (.iadd, 1) := by decide +kernel
theorem dL_law_558 : decode cL_law 558 = .ok (.iaload, 1) := by decide +kernel
theorem dL_law_559 : decode cL_law 559 = .ok (.aload_n 3, 1) := by decide +kernel
theorem dL_law_560 : decode cL_law 560 = .ok (.invokestatic 113, 3) := by decide +kernel
theorem dL_law_563 : decode cL_law 563 = .ok (.istore 5, 2) := by decide +kernel
theorem dL_law_565 : decode cL_law 565 = .ok (.aload_n 2, 1) := by decide +kernel
theorem dL_law_566 : decode cL_law 566 = .ok (.aload_n 0, 1) := by decide +kernel
theorem dL_law_567 : decode cL_law 567 = .ok (.iload 4, 2) := by decide +kernel
theorem dL_law_569 : decode cL_law 569 = .ok (.iconst 1, 1) := by decide +kernel
theorem dL_law_570 : decode cL_law 570 = .ok (.iadd, 1) := by decide +kernel
theorem dL_law_571 : decode cL_law 571 = .ok (.iaload, 1) := by decide +kernel
theorem dL_law_572 : decode cL_law 572 = .ok (.invokevirtual 115, 3) := by decide +kernel
theorem dL_law_575 : decode cL_law 575 = .ok (.istore 6, 2) := by decide +kernel
theorem dL_law_577 : decode cL_law 577 = .ok (.aload_n 2, 1) := by decide +kernel
theorem dL_law_578 : decode cL_law 578 = .ok (.invokevirtual 90, 3) := by decide +kernel
theorem dL_law_581 : decode cL_law 581 = .ok (.iload 5, 2) := by decide +kernel
theorem dL_law_583 : decode cL_law 583 = .ok (.if_icmp .eq 5, 3) := by decide +kernel
theorem dL_law_586 : decode cL_law 586 = .ok (.iconst 0, 1) := by decide +kernel
theorem dL_law_587 : decode cL_law 587 = .ok (.ireturn, 1) := by decide +kernel
theorem dL_law_588 : decode cL_law 588 = .ok (.iload 5, 2) := by decide +kernel
theorem dL_law_590 : decode cL_law 590 = .ok (.ifCond .ne 15, 3) := by decide +kernel
theorem dL_law_593 : decode cL_law 593 = .ok (.aload_n 3, 1) := by decide +kernel
theorem dL_law_594 : decode cL_law 594 = .ok (.iconst 0, 1) := by decide +kernel
theorem dL_law_595 : decode cL_law 595 = .ok (.laload, 1) := by decide +kernel
theorem dL_law_596 : decode cL_law 596 = .ok (.iload 6, 2) := by decide +kernel
theorem dL_law_598 : decode cL_law 598 = .ok (.i2l, 1) := by decide +kernel
theorem dL_law_599 : decode cL_law 599 = .ok (.lcmp, 1) := by decide +kernel
theorem dL_law_600 : decode cL_law 600 = .ok (.ifCond .eq 5, 3) := by decide +kernel
theorem dL_law_603 : decode cL_law 603 = .ok (.iconst 0, 1) := by decide +kernel
theorem dL_law_604 : decode cL_law 604 = .ok (.ireturn, 1) := by decide +kernel
theorem dL_law_605 : decode cL_law 605 = .ok (.goto 932, 3) := by decide +kernel
theorem dL_law_608 : decode cL_law 608 = .ok (.aload_n 1, 1) := by decide +kernel
theorem dL_law_609 : decode cL_law 609 = .ok (.invokevirtual 116, 3) := by decide +kernel
theorem dL_law_612 : decode cL_law 612 = .ok (.aload_n 2, 1) := by decide +kernel
theorem dL_law_613 : decode cL_law 613 = .ok (.invokevirtual 119, 3) := by decide +kernel
theorem dL_law_616 : decode cL_law 616 = .ok (.if_icmp .eq 921, 3) := by decide +kernel
theorem dL_law_619 : decode cL_law 619 = .ok (.iconst 0, 1) := by decide +kernel
theorem dL_law_620 : decode cL_law 620 = .ok (.ireturn, 1) := by decide +kernel
theorem dL_law_621 : decode cL_law 621 = .ok (.aload_n 1, 1) := by decide +kernel
theorem dL_law_622 : decode cL_law 622 = .ok (.invokevirtual 120, 3) := by decide +kernel
theorem dL_law_625 : decode cL_law 625 = .ok (.aload_n 2, 1) := by decide +kernel
theorem dL_law_626 : decode cL_law 626 = .ok (.invokevirtual 123, 3) := by decide +kernel
theorem dL_law_629 : decode cL_law 629 = .ok (.if_icmp .eq 908, 3) := by decide +kernel
theorem dL_law_632 : decode cL_law 632 = .ok (.iconst 0, 1) := by decide +kernel
theorem dL_law_633 : decode cL_law 633 = .ok (.ireturn, 1) := by decide +kernel
theorem dL_law_634 : decode cL_law 634 = .ok (.aload_n 1, 1) := by decide +kernel
theorem dL_law_635 : decode cL_law 635 = .ok (.aload_n 3, 1) := by decide +kernel
theorem dL_law_636 : decode cL_law 636 = .ok (.invokestatic 124, 3) := by decide +kernel
theorem dL_law_639 : decode cL_law 639 = .ok (.istore 5, 2) := by decide +kernel
theorem dL_law_641 : decode cL_law 641 = .ok (.aload_n 2, 1) := by decide +kernel
theorem dL_law_642 : decode cL_law 642 = .ok (.invokevirtual 126, 3) := by decide +kernel
theorem dL_law_645 : decode cL_law 645 = .ok (.istore 6, 2) := by decide +kernel
theorem dL_law_647 : decode cL_law 647 = .ok (.aload_n 2, 1) := by decide +kernel
theorem dL_law_648 : decode cL_law 648 = .ok (.invokevirtual 90, 3) := by decide +kernel
theorem dL_law_651 : decode cL_law 651 = .ok (.iload 5, 2) := by decide +kernel
theorem dL_law_653 : decode cL_law 653 = .ok (.if_icmp .eq 5, 3) := by decide +kernel
theorem dL_law_656 : decode cL_law 656 = .ok (.iconst 0, 1) := by decide +kernel
theorem dL_law_657 : decode cL_law 657 = .ok (.ireturn, 1) := by decide +kernel
theorem dL_law_658 : decode cL_law 658 = .ok (.iload 5, 2) := by decide +kernel
theorem dL_law_660 : decode cL_law 660 = .ok (.ifCond .ne 15, 3) := by decide +kernel
theorem dL_law_663 : decode cL_law 663 = .ok (.aload_n 3, 1) := by decide +kernel
theorem dL_law_664 : decode cL_law 664 = .ok (.iconst 0, 1) := by decide +kernel
theorem dL_law_665 : decode cL_law 665 = .ok (.laload, 1) := by decide +kernel
theorem dL_law_666 : decode cL_law 666 = .ok (.iload 6, 2) := by decide +kernel
theorem dL_law_668 : decode cL_law 668 = .ok (.i2l, 1) := by decide +kernel
theorem dL_law_669 : decode cL_law 669 = .ok (.lcmp, 1) := by decide +kernel
theorem dL_law_670 : decode cL_law 670 = .ok (.ifCond .eq 5, 3) := by decide +kernel
theorem dL_law_673 : decode cL_law 673 = .ok (.iconst 0, 1) := by decide +kernel
theorem dL_law_674 : decode cL_law 674 = .ok (.ireturn, 1) := by decide +kernel
theorem dL_law_675 : decode cL_law 675 = .ok (.goto 862, 3) := by decide +kernel
theorem dL_law_678 : decode cL_law 678 = .ok (.aload_n 1, 1) := by decide +kernel
theorem dL_law_679 : decode cL_law 679 = .ok (.aload_n 0, 1) := by decide +kernel
theorem dL_law_680 : decode cL_law 680 = .ok (.iload 4, 2) := by decide +kernel
theorem dL_law_682 : decode cL_law 682 = .ok (.iconst 1, 1) := by decide +kernel
theorem dL_law_683 : decode cL_law 683 = .ok (.iadd, 1) := by decide +kernel
theorem dL_law_684 : decode cL_law 684 = .ok (.iaload, 1) := by decide +kernel
theorem dL_law_685 : decode cL_law 685 = .ok (.aload_n 0, 1) := by decide +kernel
theorem dL_law_686 : decode cL_law 686 = .ok (.iload 4, 2) := by decide +kernel
theorem dL_law_688 : decode cL_law 688 = .ok (.iconst 2, 1) := by decide +kernel
theorem dL_law_689 : decode cL_law 689 = .ok (.iadd, 1) := by decide +kernel
theorem dL_law_690 : decode cL_law 690 = .ok (.iaload, 1) := by decide +kernel
theorem dL_law_691 : decode cL_law 691 = .ok (.aload_n 0, 1) := by decide +kernel
theorem dL_law_692 : decode cL_law 692 = .ok (.iload 4, 2) := by decide +kernel
theorem dL_law_694 : decode cL_law 694 = .ok (.iconst 3, 1) := by decide +kernel
theorem dL_law_695 : decode cL_law 695 = .ok (.iadd, 1) := by decide +kernel
theorem dL_law_696 : decode cL_law 696 = .ok (.iaload, 1) := by decide +kernel
theorem dL_law_697 : decode cL_law 697 = .ok (.aload_n 3, 1) := by decide +kernel
theorem dL_law_698 : decode cL_law 698 = .ok (.invokestatic 127, 3) := by decide +kernel
theorem dL_law_701 : decode cL_law 701 = .ok (.istore 5, 2) := by decide +kernel
theorem dL_law_703 : decode cL_law 703 = .ok (.aload_n 2, 1) := by decide +kernel
theorem dL_law_704 : decode cL_law 704 = .ok (.aload_n 0, 1) := by decide +kernel
theorem dL_law_705 : decode cL_law 705 = .ok (.iload 4, 2) := by decide +kernel
theorem dL_law_707 : decode cL_law 707 = .ok (.iconst 1, 1) := by decide +kernel
theorem dL_law_708 : decode cL_law 708 = .ok (.iadd, 1) := by decide +kernel
theorem dL_law_709 : decode cL_law 709 = .ok (.iaload, 1) := by decide +kernel
theorem dL_law_710 : decode cL_law 710 = .ok (.aload_n 0, 1) := by decide +kernel
theorem dL_law_711 : decode cL_law 711 = .ok (.iload 4, 2) := by decide +kernel
theorem dL_law_713 : decode cL_law 713 = .ok (.iconst 2, 1) := by decide +kernel
theorem dL_law_714 : decode cL_law 714 = .ok (.iadd, 1) := by decide +kernel
theorem dL_law_715 : decode cL_law 715 = .ok (.iaload, 1) := by decide +kernel
theorem dL_law_716 : decode cL_law 716 = .ok (.aload_n 0, 1) := by decide +kernel
theorem dL_law_717 : decode cL_law 717 = .ok (.iload 4, 2) := by decide +kernel
theorem dL_law_719 : decode cL_law 719 = .ok (.iconst 3, 1) := by decide +kernel
theorem dL_law_720 : decode cL_law 720 = .ok (.iadd, 1) := by decide +kernel
theorem dL_law_721 : decode cL_law 721 = .ok (.iaload, 1) := by decide +kernel
theorem dL_law_722 : decode cL_law 722 = .ok (.invokevirtual 130, 3) := by decide +kernel
theorem dL_law_725 : decode cL_law 725 = .ok (.istore 6, 2) := by decide +kernel
theorem dL_law_727 : decode cL_law 727 = .ok (.aload_n 2, 1) := by decide +kernel
theorem dL_law_728 : decode cL_law 728 = .ok (.invokevirtual 90, 3) := by decide +kernel
theorem dL_law_731 : decode cL_law 731 = .ok (.iload 5, 2) := by decide +kernel
theorem dL_law_733 : decode cL_law 733 = .ok (.if_icmp .eq 5, 3) := by decide +kernel
theorem dL_law_736 : decode cL_law 736 = .ok (.iconst 0, 1) := by decide +kernel
theorem dL_law_737 : decode cL_law 737 = .ok (.ireturn, 1) := by decide +kernel
theorem dL_law_738 : decode cL_law 738 = .ok (.iload 5, 2) := by decide +kernel
theorem dL_law_740 : decode cL_law 740 = .ok (.ifCond .ne 15, 3) := by decide +kernel
theorem dL_law_743 : decode cL_law 743 = .ok (.aload_n 3, 1) := by decide +kernel
theorem dL_law_744 : decode cL_law 744 = .ok (.iconst 0, 1) := by decide +kernel
theorem dL_law_745 : decode cL_law 745 = .ok (.laload, 1) := by decide +kernel
theorem dL_law_746 : decode cL_law 746 = .ok (.iload 6, 2) := by decide +kernel
theorem dL_law_748 : decode cL_law 748 = .ok (.i2l, 1) := by decide +kernel
theorem dL_law_749 : decode cL_law 749 = .ok (.lcmp, 1) := by decide +kernel
theorem dL_law_750 : decode cL_law 750 = .ok (.ifCond .eq 5, 3) := by decide +kernel
theorem dL_law_753 : decode cL_law 753 = .ok (.iconst 0, 1) := by decide +kernel
theorem dL_law_754 : decode cL_law 754 = .ok (.ireturn, 1) := by decide +kernel
theorem dL_law_755 : decode cL_law 755 = .ok (.goto 782, 3) := by decide +kernel
theorem dL_law_758 : decode cL_law 758 = .ok (.aload_n 1, 1) := by decide +kernel
theorem dL_law_759 : decode cL_law 759 = .ok (.aload_n 0, 1) := by decide +kernel
theorem dL_law_760 : decode cL_law 760 = .ok (.iload 4, 2) := by decide +kernel
theorem dL_law_762 : decode cL_law 762 = .ok (.iconst 1, 1) := by decide +kernel
theorem dL_law_763 : decode cL_law 763 = .ok (.iadd, 1) := by decide +kernel
theorem dL_law_764 : decode cL_law 764 = .ok (.iaload, 1) := by decide +kernel
theorem dL_law_765 : decode cL_law 765 = .ok (.aload_n 0, 1) := by decide +kernel
theorem dL_law_766 : decode cL_law 766 = .ok (.iload 4, 2) := by decide +kernel
theorem dL_law_768 : decode cL_law 768 = .ok (.iconst 2, 1) := by decide +kernel
theorem dL_law_769 : decode cL_law 769 = .ok (.iadd, 1) := by decide +kernel
theorem dL_law_770 : decode cL_law 770 = .ok (.iaload, 1) := by decide +kernel
theorem dL_law_771 : decode cL_law 771 = .ok (.aload_n 3, 1) := by decide +kernel
theorem dL_law_772 : decode cL_law 772 = .ok (.invokestatic 131, 3) := by decide +kernel
theorem dL_law_775 : decode cL_law 775 = .ok (.istore 5, 2) := by decide +kernel
theorem dL_law_777 : decode cL_law 777 = .ok (.aload_n 2, 1) := by decide +kernel
theorem dL_law_778 : decode cL_law 778 = .ok (.aload_n 0, 1) := by decide +kernel
theorem dL_law_779 : decode cL_law 779 = .ok (.iload 4, 2) := by decide +kernel
theorem dL_law_781 : decode cL_law 781 = .ok (.iconst 1, 1) := by decide +kernel
theorem dL_law_782 : decode cL_law 782 = .ok (.iadd, 1) := by decide +kernel
theorem dL_law_783 : decode cL_law 783 = .ok (.iaload, 1) := by decide +kernel
theorem dL_law_784 : decode cL_law 784 = .ok (.aload_n 0, 1) := by decide +kernel
theorem dL_law_785 : decode cL_law 785 = .ok (.iload 4, 2) := by decide +kernel
theorem dL_law_787 : decode cL_law 787 = .ok (.iconst 2, 1) := by decide +kernel
theorem dL_law_788 : decode cL_law 788 = .ok (.iadd, 1) := by decide +kernel
theorem dL_law_789 : decode cL_law 789 = .ok (.iaload, 1) := by decide +kernel
theorem dL_law_790 : decode cL_law 790 = .ok (.invokevirtual 133, 3) := by decide +kernel
theorem dL_law_793 : decode cL_law 793 = .ok (.istore 6, 2) := by decide +kernel
theorem dL_law_795 : decode cL_law 795 = .ok (.aload_n 2, 1) := by decide +kernel
theorem dL_law_796 : decode cL_law 796 = .ok (.invokevirtual 90, 3) := by decide +kernel
theorem dL_law_799 : decode cL_law 799 = .ok (.iload 5, 2) := by decide +kernel
theorem dL_law_801 : decode cL_law 801 = .ok (.if_icmp .eq 5, 3) := by decide +kernel
theorem dL_law_804 : decode cL_law 804 = .ok (.iconst 0, 1) := by decide +kernel
theorem dL_law_805 : decode cL_law 805 = .ok (.ireturn, 1) := by decide +kernel
theorem dL_law_806 : decode cL_law 806 = .ok (.iload 5, 2) := by decide +kernel
theorem dL_law_808 : decode cL_law 808 = .ok (.ifCond .ne 15, 3) := by decide +kernel
theorem dL_law_811 : decode cL_law 811 = .ok (.aload_n 3, 1) := by decide +kernel
theorem dL_law_812 : decode cL_law 812 = .ok (.iconst 0, 1) := by decide +kernel
theorem dL_law_813 : decode cL_law 813 = .ok (.laload, 1) := by decide +kernel
theorem dL_law_814 : decode cL_law 814 = .ok (.iload 6, 2) := by decide +kernel
theorem dL_law_816 : decode cL_law 816 = .ok (.i2l, 1) := by decide +kernel
theorem dL_law_817 : decode cL_law 817 = .ok (.lcmp, 1) := by decide +kernel
theorem dL_law_818 : decode cL_law 818 = .ok (.ifCond .eq 5, 3) := by decide +kernel
theorem dL_law_821 : decode cL_law 821 = .ok (.iconst 0, 1) := by decide +kernel
theorem dL_law_822 : decode cL_law 822 = .ok (.ireturn, 1) := by decide +kernel
theorem dL_law_823 : decode cL_law 823 = .ok (.goto 714, 3) := by decide +kernel
theorem dL_law_826 : decode cL_law 826 = .ok (.aload_n 1, 1) := by decide +kernel
theorem dL_law_827 : decode cL_law 827 = .ok (.aload_n 0, 1) := by decide +kernel
theorem dL_law_828 : decode cL_law 828 = .ok (.iload 4, 2) := by decide +kernel
theorem dL_law_830 : decode cL_law 830 = .ok (.iconst 1, 1) := by decide +kernel
theorem dL_law_831 : decode cL_law 831 = .ok (.iadd, 1) := by decide +kernel
theorem dL_law_832 : decode cL_law 832 = .ok (.iaload, 1) := by decide +kernel
theorem dL_law_833 : decode cL_law 833 = .ok (.aload_n 0, 1) := by decide +kernel
theorem dL_law_834 : decode cL_law 834 = .ok (.iload 4, 2) := by decide +kernel
theorem dL_law_836 : decode cL_law 836 = .ok (.iconst 2, 1) := by decide +kernel
theorem dL_law_837 : decode cL_law 837 = .ok (.iadd, 1) := by decide +kernel
theorem dL_law_838 : decode cL_law 838 = .ok (.iaload, 1) := by decide +kernel
theorem dL_law_839 : decode cL_law 839 = .ok (.aload_n 0, 1) := by decide +kernel
theorem dL_law_840 : decode cL_law 840 = .ok (.iload 4, 2) := by decide +kernel
theorem dL_law_842 : decode cL_law 842 = .ok (.iconst 3, 1) := by decide +kernel
theorem dL_law_843 : decode cL_law 843 = .ok (.iadd, 1) := by decide +kernel
theorem dL_law_844 : decode cL_law 844 = .ok (.iaload, 1) := by decide +kernel
theorem dL_law_845 : decode cL_law 845 = .ok (.aload_n 0, 1) := by decide +kernel
theorem dL_law_846 : decode cL_law 846 = .ok (.iload 4, 2) := by decide +kernel
theorem dL_law_848 : decode cL_law 848 = .ok (.iconst 4, 1) := by decide +kernel
theorem dL_law_849 : decode cL_law 849 = .ok (.iadd, 1) := by decide +kernel
theorem dL_law_850 : decode cL_law 850 = .ok (.iaload, 1) := by decide +kernel
theorem dL_law_851 : decode cL_law 851 = .ok (.ifCond .eq 7, 3) := by decide +kernel
theorem dL_law_854 : decode cL_law 854 = .ok (.iconst 1, 1) := by decide +kernel
theorem dL_law_855 : decode cL_law 855 = .ok (.goto 4, 3) := by decide +kernel
theorem dL_law_858 : decode cL_law 858 = .ok (.iconst 0, 1) := by decide +kernel
theorem dL_law_859 : decode cL_law 859 = .ok (.aload_n 3, 1) := by decide +kernel
theorem dL_law_860 : decode cL_law 860 = .ok (.invokestatic 134, 3) := by decide +kernel
theorem dL_law_863 : decode cL_law 863 = .ok (.istore 5, 2) := by decide +kernel
theorem dL_law_865 : decode cL_law 865 = .ok (.aload_n 2, 1) := by decide +kernel
theorem dL_law_866 : decode cL_law 866 = .ok (.aload_n 0, 1) := by decide +kernel
theorem dL_law_867 : decode cL_law 867 = .ok (.iload 4, 2) := by decide +kernel
theorem dL_law_869 : decode cL_law 869 = .ok (.iconst 1, 1) := by decide +kernel
theorem dL_law_870 : decode cL_law 870 = .ok (.iadd, 1) := by decide +kernel
theorem dL_law_871 : decode cL_law 871 = .ok (.iaload, 1) := by decide +kernel
theorem dL_law_872 : decode cL_law 872 = .ok (.aload_n 0, 1) := by decide +kernel
theorem dL_law_873 : decode cL_law 873 = .ok (.iload 4, 2) := by decide +kernel
theorem dL_law_875 : decode cL_law 875 = .ok (.iconst 2, 1) := by decide +kernel
theorem dL_law_876 : decode cL_law 876 = .ok (.iadd, 1) := by decide +kernel
theorem dL_law_877 : decode cL_law 877 = .ok (.iaload, 1) := by decide +kernel
theorem dL_law_878 : decode cL_law 878 = .ok (.aload_n 0, 1) := by decide +kernel
theorem dL_law_879 : decode cL_law 879 = .ok (.iload 4, 2) := by decide +kernel
theorem dL_law_881 : decode cL_law 881 = .ok (.iconst 3, 1) := by decide +kernel
theorem dL_law_882 : decode cL_law 882 = .ok (.iadd, 1) := by decide +kernel
theorem dL_law_883 : decode cL_law 883 = .ok (.iaload, 1) := by decide +kernel
theorem dL_law_884 : decode cL_law 884 = .ok (.aload_n 0, 1) := by decide +kernel
theorem dL_law_885 : decode cL_law 885 = .ok (.iload 4, 2) := by decide +kernel
theorem dL_law_887 : decode cL_law 887 = .ok (.iconst 4, 1) := by decide +kernel
theorem dL_law_888 : decode cL_law 888 = .ok (.iadd, 1) := by decide +kernel
theorem dL_law_889 : decode cL_law 889 = .ok (.iaload, 1) := by decide +kernel
theorem dL_law_890 : decode cL_law 890 = .ok (.ifCond .eq 7, 3) := by decide +kernel
theorem dL_law_893 : decode cL_law 893 = .ok (.iconst 1, 1) := by decide +kernel
theorem dL_law_894 : decode cL_law 894 = .ok (.goto 4, 3) := by decide +kernel
theorem dL_law_897 : decode cL_law 897 = .ok (.iconst 0, 1) := by decide +kernel
theorem dL_law_898 : decode cL_law 898 = .ok (.invokevirtual 137, 3) := by decide +kernel
theorem dL_law_901 : decode cL_law 901 = .ok (.istore 6, 2) := by decide +kernel
theorem dL_law_903 : decode cL_law 903 = .ok (.aload_n 2, 1) := by decide +kernel
theorem dL_law_904 : decode cL_law 904 = .ok (.invokevirtual 90, 3) := by decide +kernel
theorem dL_law_907 : decode cL_law 907 = .ok (.iload 5, 2) := by decide +kernel
theorem dL_law_909 : decode cL_law 909 = .ok (.if_icmp .eq 5, 3) := by decide +kernel
theorem dL_law_912 : decode cL_law 912 = .ok (.iconst 0, 1) := by decide +kernel
theorem dL_law_913 : decode cL_law 913 = .ok (.ireturn, 1) := by decide +kernel
theorem dL_law_914 : decode cL_law 914 = .ok (.iload 5, 2) := by decide +kernel
theorem dL_law_916 : decode cL_law 916 = .ok (.ifCond .ne 15, 3) := by decide +kernel
theorem dL_law_919 : decode cL_law 919 = .ok (.aload_n 3, 1) := by decide +kernel
theorem dL_law_920 : decode cL_law 920 = .ok (.iconst 0, 1) := by decide +kernel
theorem dL_law_921 : decode cL_law 921 = .ok (.laload, 1) := by decide +kernel
theorem dL_law_922 : decode cL_law 922 = .ok (.iload 6, 2) := by decide +kernel
theorem dL_law_924 : decode cL_law 924 = .ok (.i2l, 1) := by decide +kernel
theorem dL_law_925 : decode cL_law 925 = .ok (.lcmp, 1) := by decide +kernel
theorem dL_law_926 : decode cL_law 926 = .ok (.ifCond .eq 5, 3) := by decide +kernel
theorem dL_law_929 : decode cL_law 929 = .ok (.iconst 0, 1) := by decide +kernel
theorem dL_law_930 : decode cL_law 930 = .ok (.ireturn, 1) := by decide +kernel
theorem dL_law_931 : decode cL_law 931 = .ok (.goto 606, 3) := by decide +kernel
theorem dL_law_934 : decode cL_law 934 = .ok (.aload_n 1, 1) := by decide +kernel
theorem dL_law_935 : decode cL_law 935 = .ok (.aload_n 0, 1) := by decide +kernel
theorem dL_law_936 : decode cL_law 936 = .ok (.iload 4, 2) := by decide +kernel
theorem dL_law_938 : decode cL_law 938 = .ok (.iconst 1, 1) := by decide +kernel
theorem dL_law_939 : decode cL_law 939 = .ok (.iadd, 1) := by decide +kernel
theorem dL_law_940 : decode cL_law 940 = .ok (.iaload, 1) := by decide +kernel
theorem dL_law_941 : decode cL_law 941 = .ok (.aload_n 0, 1) := by decide +kernel
theorem dL_law_942 : decode cL_law 942 = .ok (.iload 4, 2) := by decide +kernel
theorem dL_law_944 : decode cL_law 944 = .ok (.iconst 2, 1) := by decide +kernel
theorem dL_law_945 : decode cL_law 945 = .ok (.iadd, 1) := by decide +kernel
theorem dL_law_946 : decode cL_law 946 = .ok (.iaload, 1) := by decide +kernel
theorem dL_law_947 : decode cL_law 947 = .ok (.aload_n 3, 1) := by decide +kernel
theorem dL_law_948 : decode cL_law 948 = .ok (.invokestatic 138, 3) := by decide +kernel
theorem dL_law_951 : decode cL_law 951 = .ok (.istore 5, 2) := by decide +kernel
theorem dL_law_953 : decode cL_law 953 = .ok (.aload_n 2, 1) := by decide +kernel
theorem dL_law_954 : decode cL_law 954 = .ok (.aload_n 0, 1) := by decide +kernel
theorem dL_law_955 : decode cL_law 955 = .ok (.iload 4, 2) := by decide +kernel
theorem dL_law_957 : decode cL_law 957 = .ok (.iconst 1, 1) := by decide +kernel
theorem dL_law_958 : decode cL_law 958 = .ok (.iadd, 1) := by decide +kernel
theorem dL_law_959 : decode cL_law 959 = .ok (.iaload, 1) := by decide +kernel
theorem dL_law_960 : decode cL_law 960 = .ok (.aload_n 0, 1) := by decide +kernel
theorem dL_law_961 : decode cL_law 961 = .ok (.iload 4, 2) := by decide +kernel
theorem dL_law_963 : decode cL_law 963 = .ok (.iconst 2, 1) := by decide +kernel
theorem dL_law_964 : decode cL_law 964 = .ok (.iadd, 1) := by decide +kernel
theorem dL_law_965 : decode cL_law 965 = .ok (.iaload, 1) := by decide +kernel
theorem dL_law_966 : decode cL_law 966 = .ok (.invokevirtual 140, 3) := by decide +kernel
theorem dL_law_969 : decode cL_law 969 = .ok (.istore 6, 2) := by decide +kernel
theorem dL_law_971 : decode cL_law 971 = .ok (.aload_n 2, 1) := by decide +kernel
theorem dL_law_972 : decode cL_law 972 = .ok (.invokevirtual 90, 3) := by decide +kernel
theorem dL_law_975 : decode cL_law 975 = .ok (.iload 5, 2) := by decide +kernel
theorem dL_law_977 : decode cL_law 977 = .ok (.if_icmp .eq 5, 3) := by decide +kernel
theorem dL_law_980 : decode cL_law 980 = .ok (.iconst 0, 1) := by decide +kernel
theorem dL_law_981 : decode cL_law 981 = .ok (.ireturn, 1) := by decide +kernel
theorem dL_law_982 : decode cL_law 982 = .ok (.iload 5, 2) := by decide +kernel
theorem dL_law_984 : decode cL_law 984 = .ok (.ifCond .ne 15, 3) := by decide +kernel
theorem dL_law_987 : decode cL_law 987 = .ok (.aload_n 3, 1) := by decide +kernel
theorem dL_law_988 : decode cL_law 988 = .ok (.iconst 0, 1) := by decide +kernel
theorem dL_law_989 : decode cL_law 989 = .ok (.laload, 1) := by decide +kernel
theorem dL_law_990 : decode cL_law 990 = .ok (.iload 6, 2) := by decide +kernel
theorem dL_law_992 : decode cL_law 992 = .ok (.i2l, 1) := by decide +kernel
theorem dL_law_993 : decode cL_law 993 = .ok (.lcmp, 1) := by decide +kernel
theorem dL_law_994 : decode cL_law 994 = .ok (.ifCond .eq 5, 3) := by decide +kernel
theorem dL_law_997 : decode cL_law 997 = .ok (.iconst 0, 1) := by decide +kernel
theorem dL_law_998 : decode cL_law 998 = .ok (.ireturn, 1) := by decide +kernel
theorem dL_law_999 : decode cL_law 999 = .ok (.goto 538, 3) := by decide +kernel
theorem dL_law_1002 : decode cL_law 1002 = .ok (.aload_n 1, 1) := by decide +kernel
theorem dL_law_1003 : decode cL_law 1003 = .ok (.aload_n 0, 1) := by decide +kernel
theorem dL_law_1004 : decode cL_law 1004 = .ok (.iload 4, 2) := by decide +kernel
theorem dL_law_1006 : decode cL_law 1006 = .ok (.iconst 1, 1) := by decide +kernel
theorem dL_law_1007 : decode cL_law 1007 = .ok (.iadd, 1) := by decide +kernel
theorem dL_law_1008 : decode cL_law 1008 = .ok (.iaload, 1) := by decide +kernel
theorem dL_law_1009 : decode cL_law 1009 = .ok (.aload_n 3, 1) := by decide +kernel
theorem dL_law_1010 : decode cL_law 1010 = .ok (.invokestatic 141, 3) := by decide +kernel
theorem dL_law_1013 : decode cL_law 1013 = .ok (.istore 5, 2) := by decide +kernel
theorem dL_law_1015 : decode cL_law 1015 = .ok (.aload_n 2, 1) := by decide +kernel
theorem dL_law_1016 : decode cL_law 1016 = .ok (.aload_n 0, 1) := by decide +kernel
theorem dL_law_1017 : decode cL_law 1017 = .ok (.iload 4, 2) := by decide +kernel
theorem dL_law_1019 : decode cL_law 1019 = .ok (.iconst 1, 1) := by decide +kernel
theorem dL_law_1020 : decode cL_law 1020 = .ok (.iadd, 1) := by decide +kernel
theorem dL_law_1021 : decode cL_law 1021 = .ok (.iaload, 1) := by decide +kernel
theorem dL_law_1022 : decode cL_law 1022 = .ok (.invokevirtual 143, 3) := by decide +kernel
theorem dL_law_1025 : decode cL_law 1025 = .ok (.istore 6, 2) := by decide +kernel
theorem dL_law_1027 : decode cL_law 1027 = .ok (.aload_n 2, 1) := by decide +kernel
theorem dL_law_1028 : decode cL_law 1028 = .ok (.invokevirtual 90, 3) := by decide +kernel
theorem dL_law_1031 : decode cL_law 1031 = .ok (.iload 5, 2) := by decide +kernel
theorem dL_law_1033 : decode cL_law 1033 = .ok (.if_icmp .eq 5, 3) := by decide +kernel
theorem dL_law_1036 : decode cL_law 1036 = .ok (.iconst 0, 1) := by decide +kernel
theorem dL_law_1037 : decode cL_law 1037 = .ok (.ireturn, 1) := by decide +kernel
theorem dL_law_1038 : decode cL_law 1038 = .ok (.iload 5, 2) := by decide +kernel
theorem dL_law_1040 : decode cL_law 1040 = .ok (.ifCond .ne 15, 3) := by decide +kernel
theorem dL_law_1043 : decode cL_law 1043 = .ok (.aload_n 3, 1) := by decide +kernel
theorem dL_law_1044 : decode cL_law 1044 = .ok (.iconst 0, 1) := by decide +kernel
theorem dL_law_1045 : decode cL_law 1045 = .ok (.laload, 1) := by decide +kernel
theorem dL_law_1046 : decode cL_law 1046 = .ok (.iload 6, 2) := by decide +kernel
theorem dL_law_1048 : decode cL_law 1048 = .ok (.i2l, 1) := by decide +kernel
theorem dL_law_1049 : decode cL_law 1049 = .ok (.lcmp, 1) := by decide +kernel
theorem dL_law_1050 : decode cL_law 1050 = .ok (.ifCond .eq 5, 3) := by decide +kernel
theorem dL_law_1053 : decode cL_law 1053 = .ok (.iconst 0, 1) := by decide +kernel
theorem dL_law_1054 : decode cL_law 1054 = .ok (.ireturn, 1) := by decide +kernel
theorem dL_law_1055 : decode cL_law 1055 = .ok (.goto 482, 3) := by decide +kernel
theorem dL_law_1058 : decode cL_law 1058 = .ok (.aload_n 1, 1) := by decide +kernel
theorem dL_law_1059 : decode cL_law 1059 = .ok (.aload_n 0, 1) := by decide +kernel
theorem dL_law_1060 : decode cL_law 1060 = .ok (.iload 4, 2) := by decide +kernel
theorem dL_law_1062 : decode cL_law 1062 = .ok (.iconst 1, 1) := by decide +kernel
theorem dL_law_1063 : decode cL_law 1063 = .ok (.iadd, 1) := by decide +kernel
theorem dL_law_1064 : decode cL_law 1064 = .ok (.iaload, 1) := by decide +kernel
theorem dL_law_1065 : decode cL_law 1065 = .ok (.aload_n 0, 1) := by decide +kernel
theorem dL_law_1066 : decode cL_law 1066 = .ok (.iload 4, 2) := by decide +kernel
theorem dL_law_1068 : decode cL_law 1068 = .ok (.iconst 2, 1) := by decide +kernel
theorem dL_law_1069 : decode cL_law 1069 = .ok (.iadd, 1) := by decide +kernel
theorem dL_law_1070 : decode cL_law 1070 = .ok (.iaload, 1) := by decide +kernel
theorem dL_law_1071 : decode cL_law 1071 = .ok (.aload_n 3, 1) := by decide +kernel
theorem dL_law_1072 : decode cL_law 1072 = .ok (.invokestatic 144, 3) := by decide +kernel
theorem dL_law_1075 : decode cL_law 1075 = .ok (.istore 5, 2) := by decide +kernel
theorem dL_law_1077 : decode cL_law 1077 = .ok (.aload_n 2, 1) := by decide +kernel
theorem dL_law_1078 : decode cL_law 1078 = .ok (.aload_n 0, 1) := by decide +kernel
theorem dL_law_1079 : decode cL_law 1079 = .ok (.iload 4, 2) := by decide +kernel
theorem dL_law_1081 : decode cL_law 1081 = .ok (.iconst 1, 1) := by decide +kernel
theorem dL_law_1082 : decode cL_law 1082 = .ok (.iadd, 1) := by decide +kernel
theorem dL_law_1083 : decode cL_law 1083 = .ok (.iaload, 1) := by decide +kernel
theorem dL_law_1084 : decode cL_law 1084 = .ok (.aload_n 0, 1) := by decide +kernel
theorem dL_law_1085 : decode cL_law 1085 = .ok (.iload 4, 2) := by decide +kernel
theorem dL_law_1087 : decode cL_law 1087 = .ok (.iconst 2, 1) := by decide +kernel
theorem dL_law_1088 : decode cL_law 1088 = .ok (.iadd, 1) := by decide +kernel
theorem dL_law_1089 : decode cL_law 1089 = .ok (.iaload, 1) := by decide +kernel
theorem dL_law_1090 : decode cL_law 1090 = .ok (.invokevirtual 146, 3) := by decide +kernel
theorem dL_law_1093 : decode cL_law 1093 = .ok (.istore 6, 2) := by decide +kernel
theorem dL_law_1095 : decode cL_law 1095 = .ok (.aload_n 2, 1) := by decide +kernel
theorem dL_law_1096 : decode cL_law 1096 = .ok (.invokevirtual 90, 3) := by decide +kernel
theorem dL_law_1099 : decode cL_law 1099 = .ok (.iload 5, 2) := by decide +kernel
theorem dL_law_1101 : decode cL_law 1101 = .ok (.if_icmp .eq 5, 3) := by decide +kernel
theorem dL_law_1104 : decode cL_law 1104 = .ok (.iconst 0, 1) := by decide +kernel
theorem dL_law_1105 : decode cL_law 1105 = .ok (.ireturn, 1) := by decide +kernel
theorem dL_law_1106 : decode cL_law 1106 = .ok (.iload 5, 2) := by decide +kernel
theorem dL_law_1108 : decode cL_law 1108 = .ok (.ifCond .ne 15, 3) := by decide +kernel
theorem dL_law_1111 : decode cL_law 1111 = .ok (.aload_n 3, 1) := by decide +kernel
theorem dL_law_1112 : decode cL_law 1112 = .ok (.iconst 0, 1) := by decide +kernel
theorem dL_law_1113 : decode cL_law 1113 = .ok (.laload, 1) := by decide +kernel
theorem dL_law_1114 : decode cL_law 1114 = .ok (.iload 6, 2) := by decide +kernel
theorem dL_law_1116 : decode cL_law 1116 = .ok (.i2l, 1) := by decide +kernel
theorem dL_law_1117 : decode cL_law 1117 = .ok (.lcmp, 1) := by decide +kernel
theorem dL_law_1118 : decode cL_law 1118 = .ok (.ifCond .eq 5, 3) := by decide +kernel
theorem dL_law_1121 : decode cL_law 1121 = .ok (.iconst 0, 1) := by decide +kernel
theorem dL_law_1122 : decode cL_law 1122 = .ok (.ireturn, 1) := by decide +kernel
theorem dL_law_1123 : decode cL_law 1123 = .ok (.goto 414, 3) := by decide +kernel
theorem dL_law_1126 : decode cL_law 1126 = .ok (.aload_n 1, 1) := by decide +kernel
theorem dL_law_1127 : decode cL_law 1127 = .ok (.aload_n 0, 1) := by decide +kernel
theorem dL_law_1128 : decode cL_law 1128 = .ok (.iload 4, 2) := by decide +kernel
theorem dL_law_1130 : decode cL_law 1130 = .ok (.iconst 1, 1) := by decide +kernel
theorem dL_law_1131 : decode cL_law 1131 = .ok (.iadd, 1) := by decide +kernel
theorem dL_law_1132 : decode cL_law 1132 = .ok (.iaload, 1) := by decide +kernel
theorem dL_law_1133 : decode cL_law 1133 = .ok (.aload_n 3, 1) := by decide +kernel
theorem dL_law_1134 : decode cL_law 1134 = .ok (.invokestatic 147, 3) := by decide +kernel
theorem dL_law_1137 : decode cL_law 1137 = .ok (.istore 5, 2) := by decide +kernel
theorem dL_law_1139 : decode cL_law 1139 = .ok (.aload_n 2, 1) := by decide +kernel
theorem dL_law_1140 : decode cL_law 1140 = .ok (.aload_n 0, 1) := by decide +kernel
theorem dL_law_1141 : decode cL_law 1141 = .ok (.iload 4, 2) := by decide +kernel
theorem dL_law_1143 : decode cL_law 1143 = .ok (.iconst 1, 1) := by decide +kernel
theorem dL_law_1144 : decode cL_law 1144 = .ok (.iadd, 1) := by decide +kernel
theorem dL_law_1145 : decode cL_law 1145 = .ok (.iaload, 1) := by decide +kernel
theorem dL_law_1146 : decode cL_law 1146 = .ok (.invokevirtual 149, 3) := by decide +kernel
theorem dL_law_1149 : decode cL_law 1149 = .ok (.istore 6, 2) := by decide +kernel
theorem dL_law_1151 : decode cL_law 1151 = .ok (.aload_n 2, 1) := by decide +kernel
theorem dL_law_1152 : decode cL_law 1152 = .ok (.invokevirtual 90, 3) := by decide +kernel
theorem dL_law_1155 : decode cL_law 1155 = .ok (.iload 5, 2) := by decide +kernel
theorem dL_law_1157 : decode cL_law 1157 = .ok (.if_icmp .eq 5, 3) := by decide +kernel
theorem dL_law_1160 : decode cL_law 1160 = .ok (.iconst 0, 1) := by decide +kernel
theorem dL_law_1161 : decode cL_law 1161 = .ok (.ireturn, 1) := by decide +kernel
theorem dL_law_1162 : decode cL_law 1162 = .ok (.iload 5, 2) := by decide +kernel
theorem dL_law_1164 : decode cL_law 1164 = .ok (.ifCond .ne 15, 3) := by decide +kernel
theorem dL_law_1167 : decode cL_law 1167 = .ok (.aload_n 3, 1) := by decide +kernel
theorem dL_law_1168 : decode cL_law 1168 = .ok (.iconst 0, 1) := by decide +kernel
theorem dL_law_1169 : decode cL_law 1169 = .ok (.laload, 1) := by decide +kernel
theorem dL_law_1170 : decode cL_law 1170 = .ok (.iload 6, 2) := by decide +kernel
theorem dL_law_1172 : decode cL_law 1172 = .ok (.i2l, 1) := by decide +kernel
theorem dL_law_1173 : decode cL_law 1173 = .ok (.lcmp, 1) := by decide +kernel
theorem dL_law_1174 : decode cL_law 1174 = .ok (.ifCond .eq 5, 3) := by decide +kernel
theorem dL_law_1177 : decode cL_law 1177 = .ok (.iconst 0, 1) := by decide +kernel
theorem dL_law_1178 : decode cL_law 1178 = .ok (.ireturn, 1) := by decide +kernel
theorem dL_law_1179 : decode cL_law 1179 = .ok (.goto 358, 3) := by decide +kernel
theorem dL_law_1182 : decode cL_law 1182 = .ok (.aload_n 1, 1) := by decide +kernel
theorem dL_law_1183 : decode cL_law 1183 = .ok (.aload_n 0, 1) := by decide +kernel
theorem dL_law_1184 : decode cL_law 1184 = .ok (.iload 4, 2) := by decide +kernel
theorem dL_law_1186 : decode cL_law 1186 = .ok (.iconst 1, 1) := by decide +kernel
theorem dL_law_1187 : decode cL_law 1187 = .ok (.iadd, 1) := by decide +kernel
theorem dL_law_1188 : decode cL_law 1188 = .ok (.iaload, 1) := by decide +kernel
theorem dL_law_1189 : decode cL_law 1189 = .ok (.aload_n 0, 1) := by decide +kernel
theorem dL_law_1190 : decode cL_law 1190 = .ok (.iload 4, 2) := by decide +kernel
theorem dL_law_1192 : decode cL_law 1192 = .ok (.iconst 2, 1) := by decide +kernel
theorem dL_law_1193 : decode cL_law 1193 = .ok (.iadd, 1) := by decide +kernel
theorem dL_law_1194 : decode cL_law 1194 = .ok (.iaload, 1) := by decide +kernel
theorem dL_law_1195 : decode cL_law 1195 = .ok (.aload_n 0, 1) := by decide +kernel
theorem dL_law_1196 : decode cL_law 1196 = .ok (.iload 4, 2) := by decide +kernel
theorem dL_law_1198 : decode cL_law 1198 = .ok (.iconst 3, 1) := by decide +kernel
theorem dL_law_1199 : decode cL_law 1199 = .ok (.iadd, 1) := by decide +kernel
theorem dL_law_1200 : decode cL_law 1200 = .ok (.iaload, 1) := by decide +kernel
theorem dL_law_1201 : decode cL_law 1201 = .ok (.aload_n 0, 1) := by decide +kernel
theorem dL_law_1202 : decode cL_law 1202 = .ok (.iload 4, 2) := by decide +kernel
theorem dL_law_1204 : decode cL_law 1204 = .ok (.iconst 4, 1) := by decide +kernel
theorem dL_law_1205 : decode cL_law 1205 = .ok (.iadd, 1) := by decide +kernel
theorem dL_law_1206 : decode cL_law 1206 = .ok (.iaload, 1) := by decide +kernel
theorem dL_law_1207 : decode cL_law 1207 = .ok (.ifCond .eq 7, 3) := by decide +kernel
theorem dL_law_1210 : decode cL_law 1210 = .ok (.iconst 1, 1) := by decide +kernel
theorem dL_law_1211 : decode cL_law 1211 = .ok (.goto 4, 3) := by decide +kernel
theorem dL_law_1214 : decode cL_law 1214 = .ok (.iconst 0, 1) := by decide +kernel
theorem dL_law_1215 : decode cL_law 1215 = .ok (.aload_n 3, 1) := by decide +kernel
theorem dL_law_1216 : decode cL_law 1216 = .ok (.invokestatic 150, 3) := by decide +kernel
theorem dL_law_1219 : decode cL_law 1219 = .ok (.istore 5, 2) := by decide +kernel
theorem dL_law_1221 : decode cL_law 1221 = .ok (.aload_n 2, 1) := by decide +kernel
theorem dL_law_1222 : decode cL_law 1222 = .ok (.aload_n 0, 1) := by decide +kernel
theorem dL_law_1223 : decode cL_law 1223 = .ok (.iload 4, 2) := by decide +kernel
theorem dL_law_1225 : decode cL_law 1225 = .ok (.iconst 1, 1) := by decide +kernel
theorem dL_law_1226 : decode cL_law 1226 = .ok (.iadd, 1) := by decide +kernel
theorem dL_law_1227 : decode cL_law 1227 = .ok (.iaload, 1) := by decide +kernel
theorem dL_law_1228 : decode cL_law 1228 = .ok (.aload_n 0, 1) := by decide +kernel
theorem dL_law_1229 : decode cL_law 1229 = .ok (.iload 4, 2) := by decide +kernel
theorem dL_law_1231 : decode cL_law 1231 = .ok (.iconst 2, 1) := by decide +kernel
theorem dL_law_1232 : decode cL_law 1232 = .ok (.iadd, 1) := by decide +kernel
theorem dL_law_1233 : decode cL_law 1233 = .ok (.iaload, 1) := by decide +kernel
theorem dL_law_1234 : decode cL_law 1234 = .ok (.aload_n 0, 1) := by decide +kernel
theorem dL_law_1235 : decode cL_law 1235 = .ok (.iload 4, 2) := by decide +kernel
theorem dL_law_1237 : decode cL_law 1237 = .ok (.iconst 3, 1) := by decide +kernel
theorem dL_law_1238 : decode cL_law 1238 = .ok (.iadd, 1) := by decide +kernel
theorem dL_law_1239 : decode cL_law 1239 = .ok (.iaload, 1) := by decide +kernel
theorem dL_law_1240 : decode cL_law 1240 = .ok (.aload_n 0, 1) := by decide +kernel
theorem dL_law_1241 : decode cL_law 1241 = .ok (.iload 4, 2) := by decide +kernel
theorem dL_law_1243 : decode cL_law 1243 = .ok (.iconst 4, 1) := by decide +kernel
theorem dL_law_1244 : decode cL_law 1244 = .ok (.iadd, 1) := by decide +kernel
theorem dL_law_1245 : decode cL_law 1245 = .ok (.iaload, 1) := by decide +kernel
theorem dL_law_1246 : decode cL_law 1246 = .ok (.ifCond .eq 7, 3) := by decide +kernel
theorem dL_law_1249 : decode cL_law 1249 = .ok (.iconst 1, 1) := by decide +kernel
theorem dL_law_1250 : decode cL_law 1250 = .ok (.goto 4, 3) := by decide +kernel
theorem dL_law_1253 : decode cL_law 1253 = .ok (.iconst 0, 1) := by decide +kernel
theorem dL_law_1254 : decode cL_law 1254 = .ok (.invokevirtual 152, 3) := by decide +kernel
theorem dL_law_1257 : decode cL_law 1257 = .ok (.istore 6, 2) := by decide +kernel
theorem dL_law_1259 : decode cL_law 1259 = .ok (.aload_n 2, 1) := by decide +kernel
theorem dL_law_1260 : decode cL_law 1260 = .ok (.invokevirtual 90, 3) := by decide +kernel
theorem dL_law_1263 : decode cL_law 1263 = .ok (.iload 5, 2) := by decide +kernel
theorem dL_law_1265 : decode cL_law 1265 = .ok (.if_icmp .eq 5, 3) := by decide +kernel
theorem dL_law_1268 : decode cL_law 1268 = .ok (.iconst 0, 1) := by decide +kernel
theorem dL_law_1269 : decode cL_law 1269 = .ok (.ireturn, 1) := by decide +kernel
theorem dL_law_1270 : decode cL_law 1270 = .ok (.iload 5, 2) := by decide +kernel
theorem dL_law_1272 : decode cL_law 1272 = .ok (.ifCond .ne 15, 3) := by decide +kernel
theorem dL_law_1275 : decode cL_law 1275 = .ok (.aload_n 3, 1) := by decide +kernel
theorem dL_law_1276 : decode cL_law 1276 = .ok (.iconst 0, 1) := by decide +kernel
theorem dL_law_1277 : decode cL_law 1277 = .ok (.laload, 1) := by decide +kernel
theorem dL_law_1278 : decode cL_law 1278 = .ok (.iload 6, 2) := by decide +kernel
theorem dL_law_1280 : decode cL_law 1280 = .ok (.i2l, 1) := by decide +kernel
theorem dL_law_1281 : decode cL_law 1281 = .ok (.lcmp, 1) := by decide +kernel
theorem dL_law_1282 : decode cL_law 1282 = .ok (.ifCond .eq 5, 3) := by decide +kernel
theorem dL_law_1285 : decode cL_law 1285 = .ok (.iconst 0, 1) := by decide +kernel
theorem dL_law_1286 : decode cL_law 1286 = .ok (.ireturn, 1) := by decide +kernel
theorem dL_law_1287 : decode cL_law 1287 = .ok (.goto 250, 3) := by decide +kernel
theorem dL_law_1290 : decode cL_law 1290 = .ok (.aload_n 1, 1) := by decide +kernel
theorem dL_law_1291 : decode cL_law 1291 = .ok (.aload_n 0, 1) := by decide +kernel
theorem dL_law_1292 : decode cL_law 1292 = .ok (.iload 4, 2) := by decide +kernel
theorem dL_law_1294 : decode cL_law 1294 = .ok (.iconst 1, 1) := by decide +kernel
theorem dL_law_1295 : decode cL_law 1295 = .ok (.iadd, 1) := by decide +kernel
theorem dL_law_1296 : decode cL_law 1296 = .ok (.iaload, 1) := by decide +kernel
theorem dL_law_1297 : decode cL_law 1297 = .ok (.aload_n 3, 1) := by decide +kernel
theorem dL_law_1298 : decode cL_law 1298 = .ok (.invokestatic 153, 3) := by decide +kernel
theorem dL_law_1301 : decode cL_law 1301 = .ok (.istore 5, 2) := by decide +kernel
theorem dL_law_1303 : decode cL_law 1303 = .ok (.aload_n 2, 1) := by decide +kernel
theorem dL_law_1304 : decode cL_law 1304 = .ok (.aload_n 0, 1) := by decide +kernel
theorem dL_law_1305 : decode cL_law 1305 = .ok (.iload 4, 2) := by decide +kernel
theorem dL_law_1307 : decode cL_law 1307 = .ok (.iconst 1, 1) := by decide +kernel
theorem dL_law_1308 : decode cL_law 1308 = .ok (.iadd, 1) := by decide +kernel
theorem dL_law_1309 : decode cL_law 1309 = .ok (.iaload, 1) := by decide +kernel
theorem dL_law_1310 : decode cL_law 1310 = .ok (.invokevirtual 155, 3) := by decide +kernel
theorem dL_law_1313 : decode cL_law 1313 = .ok (.istore 6, 2) := by decide +kernel
theorem dL_law_1315 : decode cL_law 1315 = .ok (.aload_n 2, 1) := by decide +kernel
theorem dL_law_1316 : decode cL_law 1316 = .ok (.invokevirtual 90, 3) := by decide +kernel
theorem dL_law_1319 : decode cL_law 1319 = .ok (.iload 5, 2) := by decide +kernel
theorem dL_law_1321 : decode cL_law 1321 = .ok (.if_icmp .eq 5, 3) := by decide +kernel
theorem dL_law_1324 : decode cL_law 1324 = .ok (.iconst 0, 1) := by decide +kernel
theorem dL_law_1325 : decode cL_law 1325 = .ok (.ireturn, 1) := by decide +kernel
theorem dL_law_1326 : decode cL_law 1326 = .ok (.iload 5, 2) := by decide +kernel
theorem dL_law_1328 : decode cL_law 1328 = .ok (.ifCond .ne 15, 3) := by decide +kernel
theorem dL_law_1331 : decode cL_law 1331 = .ok (.aload_n 3, 1) := by decide +kernel
theorem dL_law_1332 : decode cL_law 1332 = .ok (.iconst 0, 1) := by decide +kernel
theorem dL_law_1333 : decode cL_law 1333 = .ok (.laload, 1) := by decide +kernel
theorem dL_law_1334 : decode cL_law 1334 = .ok (.iload 6, 2) := by decide +kernel
theorem dL_law_1336 : decode cL_law 1336 = .ok (.i2l, 1) := by decide +kernel
theorem dL_law_1337 : decode cL_law 1337 = .ok (.lcmp, 1) := by decide +kernel
theorem dL_law_1338 : decode cL_law 1338 = .ok (.ifCond .eq 5, 3) := by decide +kernel
theorem dL_law_1341 : decode cL_law 1341 = .ok (.iconst 0, 1) := by decide +kernel
theorem dL_law_1342 : decode cL_law 1342 = .ok (.ireturn, 1) := by decide +kernel
theorem dL_law_1343 : decode cL_law 1343 = .ok (.goto 194, 3) := by decide +kernel
theorem dL_law_1346 : decode cL_law 1346 = .ok (.aload_n 1, 1) := by decide +kernel
theorem dL_law_1347 : decode cL_law 1347 = .ok (.aload_n 0, 1) := by decide +kernel
theorem dL_law_1348 : decode cL_law 1348 = .ok (.iload 4, 2) := by decide +kernel
theorem dL_law_1350 : decode cL_law 1350 = .ok (.iconst 1, 1) := by decide +kernel
theorem dL_law_1351 : decode cL_law 1351 = .ok (.iadd, 1) := by decide +kernel
theorem dL_law_1352 : decode cL_law 1352 = .ok (.iaload, 1) := by decide +kernel
theorem dL_law_1353 : decode cL_law 1353 = .ok (.aload_n 0, 1) := by decide +kernel
theorem dL_law_1354 : decode cL_law 1354 = .ok (.iload 4, 2) := by decide +kernel
theorem dL_law_1356 : decode cL_law 1356 = .ok (.iconst 2, 1) := by decide +kernel
theorem dL_law_1357 : decode cL_law 1357 = .ok (.iadd, 1) := by decide +kernel
theorem dL_law_1358 : decode cL_law 1358 = .ok (.iaload, 1) := by decide +kernel
theorem dL_law_1359 : decode cL_law 1359 = .ok (.aload_n 3, 1) := by decide +kernel
theorem dL_law_1360 : decode cL_law 1360 = .ok (.invokestatic 156, 3) := by decide +kernel
theorem dL_law_1363 : decode cL_law 1363 = .ok (.istore 5, 2) := by decide +kernel
theorem dL_law_1365 : decode cL_law 1365 = .ok (.aload_n 2, 1) := by decide +kernel
theorem dL_law_1366 : decode cL_law 1366 = .ok (.aload_n 0, 1) := by decide +kernel
theorem dL_law_1367 : decode cL_law 1367 = .ok (.iload 4, 2) := by decide +kernel
theorem dL_law_1369 : decode cL_law 1369 = .ok (.iconst 1, 1) := by decide +kernel
theorem dL_law_1370 : decode cL_law 1370 = .ok (.iadd, 1) := by decide +kernel
theorem dL_law_1371 : decode cL_law 1371 = .ok (.iaload, 1) := by decide +kernel
theorem dL_law_1372 : decode cL_law 1372 = .ok (.aload_n 0, 1) := by decide +kernel
theorem dL_law_1373 : decode cL_law 1373 = .ok (.iload 4, 2) := by decide +kernel
theorem dL_law_1375 : decode cL_law 1375 = .ok (.iconst 2, 1) := by decide +kernel
theorem dL_law_1376 : decode cL_law 1376 = .ok (.iadd, 1) := by decide +kernel
theorem dL_law_1377 : decode cL_law 1377 = .ok (.iaload, 1) := by decide +kernel
theorem dL_law_1378 : decode cL_law 1378 = .ok (.invokevirtual 158, 3) := by decide +kernel
theorem dL_law_1381 : decode cL_law 1381 = .ok (.istore 6, 2) := by decide +kernel
theorem dL_law_1383 : decode cL_law 1383 = .ok (.aload_n 2, 1) := by decide +kernel
theorem dL_law_1384 : decode cL_law 1384 = .ok (.invokevirtual 90, 3) := by decide +kernel
theorem dL_law_1387 : decode cL_law 1387 = .ok (.iload 5, 2) := by decide +kernel
theorem dL_law_1389 : decode cL_law 1389 = .ok (.if_icmp .eq 5, 3) := by decide +kernel
theorem dL_law_1392 : decode cL_law 1392 = .ok (.iconst 0, 1) := by decide +kernel
theorem dL_law_1393 : decode cL_law 1393 = .ok (.ireturn, 1) := by decide +kernel
theorem dL_law_1394 : decode cL_law 1394 = .ok (.iload 5, 2) := by decide +kernel
theorem dL_law_1396 : decode cL_law 1396 = .ok (.ifCond .ne 15, 3) := by decide +kernel
theorem dL_law_1399 : decode cL_law 1399 = .ok (.aload_n 3, 1) := by decide +kernel
theorem dL_law_1400 : decode cL_law 1400 = .ok (.iconst 0, 1) := by decide +kernel
theorem dL_law_1401 : decode cL_law 1401 = .ok (.laload, 1) := by decide +kernel
theorem dL_law_1402 : decode cL_law 1402 = .ok (.iload 6, 2) := by decide +kernel
theorem dL_law_1404 : decode cL_law 1404 = .ok (.i2l, 1) := by decide +kernel
theorem dL_law_1405 : decode cL_law 1405 = .ok (.lcmp, 1) := by decide +kernel
theorem dL_law_1406 : decode cL_law 1406 = .ok (.ifCond .eq 5, 3) := by decide +kernel
theorem dL_law_1409 : decode cL_law 1409 = .ok (.iconst 0, 1) := by decide +kernel
theorem dL_law_1410 : decode cL_law 1410 = .ok (.ireturn, 1) := by decide +kernel
theorem dL_law_1411 : decode cL_law 1411 = .ok (.goto 126, 3) := by decide +kernel
theorem dL_law_1414 : decode cL_law 1414 = .ok (.aload_n 1, 1) := by decide +kernel
theorem dL_law_1415 : decode cL_law 1415 = .ok (.aload_n 0, 1) := by decide +kernel
theorem dL_law_1416 : decode cL_law 1416 = .ok (.iload 4, 2) := by decide +kernel
theorem dL_law_1418 : decode cL_law 1418 = .ok (.iconst 1, 1) := by decide +kernel
theorem dL_law_1419 : decode cL_law 1419 = .ok (.iadd, 1) := by decide +kernel
theorem dL_law_1420 : decode cL_law 1420 = .ok (.iaload, 1) := by decide +kernel
theorem dL_law_1421 : decode cL_law 1421 = .ok (.aload_n 0, 1) := by decide +kernel
theorem dL_law_1422 : decode cL_law 1422 = .ok (.iload 4, 2) := by decide +kernel
theorem dL_law_1424 : decode cL_law 1424 = .ok (.iconst 2, 1) := by decide +kernel
theorem dL_law_1425 : decode cL_law 1425 = .ok (.iadd, 1) := by decide +kernel
theorem dL_law_1426 : decode cL_law 1426 = .ok (.iaload, 1) := by decide +kernel
theorem dL_law_1427 : decode cL_law 1427 = .ok (.aload_n 3, 1) := by decide +kernel
theorem dL_law_1428 : decode cL_law 1428 = .ok (.invokestatic 159, 3) := by decide +kernel
theorem dL_law_1431 : decode cL_law 1431 = .ok (.istore 5, 2) := by decide +kernel
theorem dL_law_1433 : decode cL_law 1433 = .ok (.aload_n 2, 1) := by decide +kernel
theorem dL_law_1434 : decode cL_law 1434 = .ok (.aload_n 0, 1) := by decide +kernel
theorem dL_law_1435 : decode cL_law 1435 = .ok (.iload 4, 2) := by decide +kernel
theorem dL_law_1437 : decode cL_law 1437 = .ok (.iconst 1, 1) := by decide +kernel
theorem dL_law_1438 : decode cL_law 1438 = .ok (.iadd, 1) := by decide +kernel
theorem dL_law_1439 : decode cL_law 1439 = .ok (.iaload, 1) := by decide +kernel
theorem dL_law_1440 : decode cL_law 1440 = .ok (.aload_n 0, 1) := by decide +kernel
theorem dL_law_1441 : decode cL_law 1441 = .ok (.iload 4, 2) := by decide +kernel
theorem dL_law_1443 : decode cL_law 1443 = .ok (.iconst 2, 1) := by decide +kernel
theorem dL_law_1444 : decode cL_law 1444 = .ok (.iadd, 1) := by decide +kernel
theorem dL_law_1445 : decode cL_law 1445 = .ok (.iaload, 1) := by decide +kernel
theorem dL_law_1446 : decode cL_law 1446 = .ok (.invokevirtual 161, 3) := by decide +kernel
theorem dL_law_1449 : decode cL_law 1449 = .ok (.istore 6, 2) := by decide +kernel
theorem dL_law_1451 : decode cL_law 1451 = .ok (.aload_n 2, 1) := by decide +kernel
theorem dL_law_1452 : decode cL_law 1452 = .ok (.invokevirtual 90, 3) := by decide +kernel
theorem dL_law_1455 : decode cL_law 1455 = .ok (.iload 5, 2) := by decide +kernel
theorem dL_law_1457 : decode cL_law 1457 = .ok (.if_icmp .eq 5, 3) := by decide +kernel
theorem dL_law_1460 : decode cL_law 1460 = .ok (.iconst 0, 1) := by decide +kernel
theorem dL_law_1461 : decode cL_law 1461 = .ok (.ireturn, 1) := by decide +kernel
theorem dL_law_1462 : decode cL_law 1462 = .ok (.iload 5, 2) := by decide +kernel
theorem dL_law_1464 : decode cL_law 1464 = .ok (.ifCond .ne 15, 3) := by decide +kernel
theorem dL_law_1467 : decode cL_law 1467 = .ok (.aload_n 3, 1) := by decide +kernel
theorem dL_law_1468 : decode cL_law 1468 = .ok (.iconst 0, 1) := by decide +kernel
theorem dL_law_1469 : decode cL_law 1469 = .ok (.laload, 1) := by decide +kernel
theorem dL_law_1470 : decode cL_law 1470 = .ok (.iload 6, 2) := by decide +kernel
theorem dL_law_1472 : decode cL_law 1472 = .ok (.i2l, 1) := by decide +kernel
theorem dL_law_1473 : decode cL_law 1473 = .ok (.lcmp, 1) := by decide +kernel
theorem dL_law_1474 : decode cL_law 1474 = .ok (.ifCond .eq 5, 3) := by decide +kernel
theorem dL_law_1477 : decode cL_law 1477 = .ok (.iconst 0, 1) := by decide +kernel
theorem dL_law_1478 : decode cL_law 1478 = .ok (.ireturn, 1) := by decide +kernel
theorem dL_law_1479 : decode cL_law 1479 = .ok (.goto 58, 3) := by decide +kernel
theorem dL_law_1482 : decode cL_law 1482 = .ok (.aload_n 1, 1) := by decide +kernel
theorem dL_law_1483 : decode cL_law 1483 = .ok (.invokevirtual 162, 3) := by decide +kernel
theorem dL_law_1486 : decode cL_law 1486 = .ok (.dstore 5, 2) := by decide +kernel
theorem dL_law_1488 : decode cL_law 1488 = .ok (.aload_n 2, 1) := by decide +kernel
theorem dL_law_1489 : decode cL_law 1489 = .ok (.invokevirtual 166, 3) := by decide +kernel
theorem dL_law_1492 : decode cL_law 1492 = .ok (.dstore 7, 2) := by decide +kernel
theorem dL_law_1494 : decode cL_law 1494 = .ok (.dload 5, 2) := by decide +kernel
theorem dL_law_1496 : decode cL_law 1496 = .ok (.dload 7, 2) := by decide +kernel
theorem dL_law_1498 : decode cL_law 1498 = .ok (.dcmp .l, 1) := by decide +kernel
theorem dL_law_1499 : decode cL_law 1499 = .ok (.ifCond .eq 21, 3) := by decide +kernel
theorem dL_law_1502 : decode cL_law 1502 = .ok (.dload 5, 2) := by decide +kernel
theorem dL_law_1504 : decode cL_law 1504 = .ok (.dload 5, 2) := by decide +kernel
theorem dL_law_1506 : decode cL_law 1506 = .ok (.dcmp .l, 1) := by decide +kernel
theorem dL_law_1507 : decode cL_law 1507 = .ok (.ifCond .eq 11, 3) := by decide +kernel
theorem dL_law_1510 : decode cL_law 1510 = .ok (.dload 7, 2) := by decide +kernel
theorem dL_law_1512 : decode cL_law 1512 = .ok (.dload 7, 2) := by decide +kernel
theorem dL_law_1514 : decode cL_law 1514 = .ok (.dcmp .l, 1) := by decide +kernel
theorem dL_law_1515 : decode cL_law 1515 = .ok (.ifCond .ne 5, 3) := by decide +kernel
theorem dL_law_1518 : decode cL_law 1518 = .ok (.iconst 0, 1) := by decide +kernel
theorem dL_law_1519 : decode cL_law 1519 = .ok (.ireturn, 1) := by decide +kernel
theorem dL_law_1520 : decode cL_law 1520 = .ok (.goto 17, 3) := by decide +kernel
theorem dL_law_1523 : decode cL_law 1523 = .ok (.aload_n 1, 1) := by decide +kernel
theorem dL_law_1524 : decode cL_law 1524 = .ok (.invokevirtual 167, 3) := by decide +kernel
theorem dL_law_1527 : decode cL_law 1527 = .ok (.aload_n 2, 1) := by decide +kernel
theorem dL_law_1528 : decode cL_law 1528 = .ok (.invokevirtual 171, 3) := by decide +kernel
theorem dL_law_1531 : decode cL_law 1531 = .ok (.lcmp, 1) := by decide +kernel
theorem dL_law_1532 : decode cL_law 1532 = .ok (.ifCond .eq 5, 3) := by decide +kernel
theorem dL_law_1535 : decode cL_law 1535 = .ok (.iconst 0, 1) := by decide +kernel
theorem dL_law_1536 : decode cL_law 1536 = .ok (.ireturn, 1) := by decide +kernel
theorem dL_law_1537 : decode cL_law 1537 = .ok (.iinc 4 5, 3) := by decide +kernel
theorem dL_law_1540 : decode cL_law 1540 = .ok (.goto (-1517), 3) := by decide +kernel
theorem dL_law_1543 : decode cL_law 1543 = .ok (.iconst 1, 1) := by decide +kernel
theorem dL_law_1544 : decode cL_law 1544 = .ok (.ireturn, 1) := by decide +kernel
