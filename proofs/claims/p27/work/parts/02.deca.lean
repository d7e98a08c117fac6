theorem dX0_init_0 : decode cX0_init 0 = .ok (.aload_n 0, 1) := by decide +kernel
theorem dX0_init_1 : decode cX0_init 1 = .ok (.invokespecial 3, 3) := by decide +kernel
theorem dX0_init_4 : decode cX0_init 4 = .ok (.aload_n 0, 1) := by decide +kernel
theorem dX0_init_5 : decode cX0_init 5 = .ok (.new 9, 3) := by decide +kernel
theorem dX0_init_8 : decode cX0_init 8 = .ok (.dup, 1) := by decide +kernel
theorem dX0_init_9 : decode cX0_init 9 = .ok (.invokespecial 11, 3) := by decide +kernel
theorem dX0_init_12 : decode cX0_init 12 = .ok (.putfield 12, 3) := by decide +kernel
theorem dX0_init_15 : decode cX0_init 15 = .ok (.aload_n 0, 1) := by decide +kernel
theorem dX0_init_16 : decode cX0_init 16 = .ok (.new 9, 3) := by decide +kernel
theorem dX0_init_19 : decode cX0_init 19 = .ok (.dup, 1) := by decide +kernel
theorem dX0_init_20 : decode cX0_init 20 = .ok (.invokespecial 11, 3) := by decide +kernel
theorem dX0_init_23 : decode cX0_init 23 = .ok (.putfield 18, 3) := by decide +kernel
theorem dX0_init_26 : decode cX0_init 26 = .ok (.aload_n 0, 1) := by decide +kernel
theorem dX0_init_27 : decode cX0_init 27 = .ok (.new 9, 3) := by decide +kernel
theorem dX0_init_30 : decode cX0_init 30 = .ok (.dup, 1) := by decide +kernel
theorem dX0_init_31 : decode cX0_init 31 = .ok (.invokespecial 11, 3) := by decide +kernel
theorem dX0_init_34 : decode cX0_init 34 = .ok (.putfield 21, 3) := by decide +kernel
theorem dX0_init_37 : decode cX0_init 37 = .ok (.return_, 1) := by decide +kernel
theorem dX0_by_0 : decode cX0_by 0 = .ok (.iload_n 1, 1) := by decide +kernel
theorem dX0_by_1 : decode cX0_by 1 = .ok (.lookupswitch 37 #[(1, 27), (2, 32)], 27) := by decide +kernel
theorem dX0_by_28 : decode cX0_by 28 = .ok (.aload_n 0, 1) := by decide +kernel
theorem dX0_by_29 : decode cX0_by 29 = .ok (.getfield 18, 3) := by decide +kernel
theorem dX0_by_32 : decode cX0_by 32 = .ok (.areturn, 1) := by decide +kernel
theorem dX0_by_33 : decode cX0_by 33 = .ok (.aload_n 0, 1) := by decide +kernel
theorem dX0_by_34 : decode cX0_by 34 = .ok (.getfield 21, 3) := by decide +kernel
theorem dX0_by_37 : decode cX0_by 37 = .ok (.areturn, 1) := by decide +kernel
theorem dX0_by_38 : decode cX0_by 38 = .ok (.aload_n 0, 1) := by decide +kernel
theorem dX0_by_39 : decode cX0_by 39 = .ok (.getfield 12, 3) := by decide +kernel
theorem dX0_by_42 : decode cX0_by 42 = .ok (.areturn, 1) := by decide +kernel
theorem dX0_gather_0 : decode cX0_gather 0 = .ok (.iconst 0, 1) := by decide +kernel
theorem dX0_gather_1 : decode cX0_gather 1 = .ok (.istore_n 3, 1) := by decide +kernel
theorem dX0_gather_2 : decode cX0_gather 2 = .ok (.iload_n 3, 1) := by decide +kernel
theorem dX0_gather_3 : decode cX0_gather 3 = .ok (.iconst 3, 1) := by decide +kernel
theorem dX0_gather_4 : decode cX0_gather 4 = .ok (.if_icmp .ge 27, 3) := by decide +kernel
theorem dX0_gather_7 : decode cX0_gather 7 = .ok (.aload_n 0, 1) := by decide +kernel
theorem dX0_gather_8 : decode cX0_gather 8 = .ok (.iload_n 3, 1) := by decide +kernel
theorem dX0_gather_9 : decode cX0_gather 9 = .ok (.invokevirtual 24, 3) := by decide +kernel
theorem dX0_gather_12 : decode cX0_gather 12 = .ok (.aload_n 1, 1) := by decide +kernel
theorem dX0_gather_13 : decode cX0_gather 13 = .ok (.iload_n 2, 1) := by decide +kernel
theorem dX0_gather_14 : decode cX0_gather 14 = .ok (.aload_n 1, 1) := by decide +kernel
theorem dX0_gather_15 : decode cX0_gather 15 = .ok (.getfield 28, 3) := by decide +kernel
theorem dX0_gather_18 : decode cX0_gather 18 = .ok (.iload_n 3, 1) := by decide +kernel
theorem dX0_gather_19 : decode cX0_gather 19 = .ok (.invokevirtual 34, 3) := by decide +kernel
theorem dX0_gather_22 : decode cX0_gather 22 = .ok (.invokevirtual 40, 3) := by decide +kernel
theorem dX0_gather_25 : decode cX0_gather 25 = .ok (.iinc 3 1, 3) := by decide +kernel
theorem dX0_gather_28 : decode cX0_gather 28 = .ok (.goto (-26), 3) := by decide +kernel
theorem dX0_gather_31 : decode cX0_gather 31 = .ok (.return_, 1) := by decide +kernel
theorem dX0_settledNotch_0 : decode cX0_settledNotch 0 = .ok (.aload_n 0, 1) := by decide +kernel
theorem dX0_settledNotch_1 : decode cX0_settledNotch 1 = .ok (.getfield 18, 3) := by decide +kernel
theorem dX0_settledNotch_4 : decode cX0_settledNotch 4 = .ok (.getfield 44, 3) := by decide +kernel
theorem dX0_settledNotch_7 : decode cX0_settledNotch 7 = .ok (.iload_n 1, 1) := by decide +kernel
theorem dX0_settledNotch_8 : decode cX0_settledNotch 8 = .ok (.invokevirtual 34, 3) := by decide +kernel
theorem dX0_settledNotch_11 : decode cX0_settledNotch 11 = .ok (.istore_n 2, 1) := by decide +kernel
theorem dX0_settledNotch_12 : decode cX0_settledNotch 12 = .ok (.iload_n 2, 1) := by decide +kernel
theorem dX0_settledNotch_13 : decode cX0_settledNotch 13 = .ok (.aload_n 0, 1) := by decide +kernel
theorem dX0_settledNotch_14 : decode cX0_settledNotch 14 = .ok (.getfield 21, 3) := by decide +kernel
theorem dX0_settledNotch_17 : decode cX0_settledNotch 17 = .ok (.getfield 44, 3) := by decide +kernel
theorem dX0_settledNotch_20 : decode cX0_settledNotch 20 = .ok (.iload_n 1, 1) := by decide +kernel
theorem dX0_settledNotch_21 : decode cX0_settledNotch 21 = .ok (.invokevirtual 34, 3) := by decide +kernel
theorem dX0_settledNotch_24 : decode cX0_settledNotch 24 = .ok (.if_icmp .ne 7, 3) := by decide +kernel
theorem dX0_settledNotch_27 : decode cX0_settledNotch 27 = .ok (.iload_n 2, 1) := by decide +kernel
theorem dX0_settledNotch_28 : decode cX0_settledNotch 28 = .ok (.goto 14, 3) := by decide +kernel
theorem dX0_settledNotch_31 : decode cX0_settledNotch 31 = .ok (.aload_n 0, 1) := by decide +kernel
theorem dX0_settledNotch_32 : decode cX0_settledNotch 32 = .ok (.getfield 12, 3) := by decide +kernel
theorem dX0_settledNotch_35 : decode cX0_settledNotch 35 = .ok (.getfield 44, 3) := by decide +kernel
theorem dX0_settledNotch_38 : decode cX0_settledNotch 38 = .ok (.iload_n 1, 1) := by decide +kernel
theorem dX0_settledNotch_39 : decode cX0_settledNotch 39 = .ok (.invokevirtual 34, 3) := by decide +kernel
theorem dX0_settledNotch_42 : decode cX0_settledNotch 42 = .ok (.ireturn, 1) := by decide +kernel
theorem dX0_quarrelCount_0 : decode cX0_quarrelCount 0 = .ok (.iconst 0, 1) := by decide +kernel
theorem dX0_quarrelCount_1 : decode cX0_quarrelCount 1 = .ok (.istore_n 2, 1) := by decide +kernel
theorem dX0_quarrelCount_2 : decode cX0_quarrelCount 2 = .ok (.iconst 0, 1) := by decide +kernel
theorem dX0_quarrelCount_3 : decode cX0_quarrelCount 3 = .ok (.istore_n 3, 1) := by decide +kernel
theorem dX0_quarrelCount_4 : decode cX0_quarrelCount 4 = .ok (.iload_n 3, 1) := by decide +kernel
theorem dX0_quarrelCount_5 : decode cX0_quarrelCount 5 = .ok (.iload_n 1, 1) := by decide +kernel
theorem dX0_quarrelCount_6 : decode cX0_quarrelCount 6 = .ok (.if_icmp .ge 57, 3) := by decide +kernel
theorem dX0_quarrelCount_9 : decode cX0_quarrelCount 9 = .ok (.aload_n 0, 1) := by decide +kernel
theorem dX0_quarrelCount_10 : decode cX0_quarrelCount 10 = .ok (.getfield 12, 3) := by decide +kernel
theorem dX0_quarrelCount_13 : decode cX0_quarrelCount 13 = .ok (.getfield 44, 3) := by decide +kernel
theorem dX0_quarrelCount_16 : decode cX0_quarrelCount 16 = .ok (.iload_n 3, 1) := by decide +kernel
theorem dX0_quarrelCount_17 : decode cX0_quarrelCount 17 = .ok (.invokevirtual 34, 3) := by decide +kernel
theorem dX0_quarrelCount_20 : decode cX0_quarrelCount 20 = .ok (.istore 4, 2) := by decide +kernel
theorem dX0_quarrelCount_22 : decode cX0_quarrelCount 22 = .ok (.iload 4, 2) := by decide +kernel
theorem dX0_quarrelCount_24 : decode cX0_quarrelCount 24 = .ok (.aload_n 0, 1) := by decide +kernel
theorem dX0_quarrelCount_25 : decode cX0_quarrelCount 25 = .ok (.getfield 18, 3) := by decide +kernel
theorem dX0_quarrelCount_28 : decode cX0_quarrelCount 28 = .ok (.getfield 44, 3) := by decide +kernel
theorem dX0_quarrelCount_31 : decode cX0_quarrelCount 31 = .ok (.iload_n 3, 1) := by decide +kernel
theorem dX0_quarrelCount_32 : decode cX0_quarrelCount 32 = .ok (.invokevirtual 34, 3) := by decide +kernel
theorem dX0_quarrelCount_35 : decode cX0_quarrelCount 35 = .ok (.if_icmp .ne 19, 3) := by decide +kernel
theorem dX0_quarrelCount_38 : decode cX0_quarrelCount 38 = .ok (.iload 4, 2) := by decide +kernel
theorem dX0_quarrelCount_40 : decode cX0_quarrelCount 40 = .ok (.aload_n 0, 1) := by decide +kernel
theorem dX0_quarrelCount_41 : decode cX0_quarrelCount 41 = .ok (.getfield 21, 3) := by decide +kernel
theorem dX0_quarrelCount_44 : decode cX0_quarrelCount 44 = .ok (.getfield 44, 3) := by decide +kernel
theorem dX0_quarrelCount_47 : decode cX0_quarrelCount 47 = .ok (.iload_n 3, 1) := by decide +kernel
theorem dX0_quarrelCount_48 : decode cX0_quarrelCount 48 = .ok (.invokevirtual 34, 3) := by decide +kernel
theorem dX0_quarrelCount_51 : decode cX0_quarrelCount 51 = .ok (.if_icmp .eq 6, 3) := by decide +kernel
theorem dX0_quarrelCount_54 : decode cX0_quarrelCount 54 = .ok (.iinc 2 1, 3) := by decide +kernel
theorem dX0_quarrelCount_57 : decode cX0_quarrelCount 57 = .ok (.iinc 3 1, 3) := by decide +kernel
theorem dX0_quarrelCount_60 : decode cX0_quarrelCount 60 = .ok (.goto (-56), 3) := by decide +kernel
theorem dX0_quarrelCount_63 : decode cX0_quarrelCount 63 = .ok (.iload_n 2, 1) := by decide +kernel
theorem dX0_quarrelCount_64 : decode cX0_quarrelCount 64 = .ok (.ireturn, 1) := by decide +kernel
theorem dX0_settlesLike_0 : decode cX0_settlesLike 0 = .ok (.iconst 0, 1) := by decide +kernel
theorem dX0_settlesLike_1 : decode cX0_settlesLike 1 = .ok (.istore_n 3, 1) := by decide +kernel
theorem dX0_settlesLike_2 : decode cX0_settlesLike 2 = .ok (.iload_n 3, 1) := by decide +kernel
theorem dX0_settlesLike_3 : decode cX0_settlesLike 3 = .ok (.iload_n 2, 1) := by decide +kernel
theorem dX0_settlesLike_4 : decode cX0_settlesLike 4 = .ok (.if_icmp .ge 24, 3) := by decide +kernel
theorem dX0_settlesLike_7 : decode cX0_settlesLike 7 = .ok (.aload_n 0, 1) := by decide +kernel
theorem dX0_settlesLike_8 : decode cX0_settlesLike 8 = .ok (.iload_n 3, 1) := by decide +kernel
theorem dX0_settlesLike_9 : decode cX0_settlesLike 9 = .ok (.invokevirtual 47, 3) := by decide +kernel
theorem dX0_settlesLike_12 : decode cX0_settlesLike 12 = .ok (.aload_n 1, 1) := by decide +kernel
theorem dX0_settlesLike_13 : decode cX0_settlesLike 13 = .ok (.iload_n 3, 1) := by decide +kernel
theorem dX0_settlesLike_14 : decode cX0_settlesLike 14 = .ok (.invokevirtual 47, 3) := by decide +kernel
theorem dX0_settlesLike_17 : decode cX0_settlesLike 17 = .ok (.if_icmp .eq 5, 3) := by decide +kernel
theorem dX0_settlesLike_20 : decode cX0_settlesLike 20 = .ok (.iconst 0, 1) := by decide +kernel
theorem dX0_settlesLike_21 : decode cX0_settlesLike 21 = .ok (.ireturn, 1) := by decide +kernel
theorem dX0_settlesLike_22 : decode cX0_settlesLike 22 = .ok (.iinc 3 1, 3) := by decide +kernel
theorem dX0_settlesLike_25 : decode cX0_settlesLike 25 = .ok (.goto (-23), 3) := by decide +kernel
theorem dX0_settlesLike_28 : decode cX0_settlesLike 28 = .ok (.iconst 1, 1) := by decide +kernel
theorem dX0_settlesLike_29 : decode cX0_settlesLike 29 = .ok (.ireturn, 1) := by decide +kernel
theorem dX1_init_0 : decode cX1_init 0 = .ok (.aload_n 0, 1) := by decide +kernel
theorem dX1_init_1 : decode cX1_init 1 = .ok (.invokespecial 3, 3) := by decide +kernel
theorem dX1_init_4 : decode cX1_init 4 = .ok (.aload_n 0, 1) := by decide +kernel
theorem dX1_init_5 : decode cX1_init 5 = .ok (.bipush 6, 2) := by decide +kernel
theorem dX1_init_7 : decode cX1_init 7 = .ok (.anewarray 9, 3) := by decide +kernel
theorem dX1_init_10 : decode cX1_init 10 = .ok (.putfield 11, 3) := by decide +kernel
theorem dX1_init_13 : decode cX1_init 13 = .ok (.aload_n 0, 1) := by decide +kernel
theorem dX1_init_14 : decode cX1_init 14 = .ok (.iconst 0, 1) := by decide +kernel
theorem dX1_init_15 : decode cX1_init 15 = .ok (.putfield 17, 3) := by decide +kernel
theorem dX1_init_18 : decode cX1_init 18 = .ok (.aload_n 0, 1) := by decide +kernel
theorem dX1_init_19 : decode cX1_init 19 = .ok (.iconst 0, 1) := by decide +kernel
theorem dX1_init_20 : decode cX1_init 20 = .ok (.putfield 21, 3) := by decide +kernel
theorem dX1_init_23 : decode cX1_init 23 = .ok (.iconst 0, 1) := by decide +kernel
theorem dX1_init_24 : decode cX1_init 24 = .ok (.istore_n 1, 1) := by decide +kernel
theorem dX1_init_25 : decode cX1_init 25 = .ok (.iload_n 1, 1) := by decide +kernel
theorem dX1_init_26 : decode cX1_init 26 = .ok (.aload_n 0, 1) := by decide +kernel
theorem dX1_init_27 : decode cX1_init 27 = .ok (.getfield 11, 3) := by decide +kernel
theorem dX1_init_30 : decode cX1_init 30 = .ok (.arraylength, 1) := by decide +kernel
theorem dX1_init_31 : decode cX1_init 31 = .ok (.if_icmp .ge 22, 3) := by decide +kernel
theorem dX1_init_34 : decode cX1_init 34 = .ok (.aload_n 0, 1) := by decide +kernel
theorem dX1_init_35 : decode cX1_init 35 = .ok (.getfield 11, 3) := by decide +kernel
theorem dX1_init_38 : decode cX1_init 38 = .ok (.iload_n 1, 1) := by decide +kernel
theorem dX1_init_39 : decode cX1_init 39 = .ok (.new 9, 3) := by decide +kernel
theorem dX1_init_42 : decode cX1_init 42 = .ok (.dup, 1) := by decide +kernel
theorem dX1_init_43 : decode cX1_init 43 = .ok (.invokespecial 24, 3) := by decide +kernel
theorem dX1_init_46 : decode cX1_init 46 = .ok (.aastore, 1) := by decide +kernel
theorem dX1_init_47 : decode cX1_init 47 = .ok (.iinc 1 1, 3) := by decide +kernel
theorem dX1_init_50 : decode cX1_init 50 = .ok (.goto (-25), 3) := by decide +kernel
theorem dX1_init_53 : decode cX1_init 53 = .ok (.return_, 1) := by decide +kernel
theorem dX1_size_0 : decode cX1_size 0 = .ok (.aload_n 0, 1) := by decide +kernel
theorem dX1_size_1 : decode cX1_size 1 = .ok (.getfield 21, 3) := by decide +kernel
theorem dX1_size_4 : decode cX1_size 4 = .ok (.ireturn, 1) := by decide +kernel
theorem dX1_isEmpty_0 : decode cX1_isEmpty 0 = .ok (.aload_n 0, 1) := by decide +kernel
theorem dX1_isEmpty_1 : decode cX1_isEmpty 1 = .ok (.getfield 21, 3) := by decide +kernel
theorem dX1_isEmpty_4 : decode cX1_isEmpty 4 = .ok (.ifCond .gt 7, 3) := by decide +kernel
theorem dX1_isEmpty_7 : decode cX1_isEmpty 7 = .ok (.iconst 1, 1) := by decide +kernel
theorem dX1_isEmpty_8 : decode cX1_isEmpty 8 = .ok (.goto 4, 3) := by decide +kernel
theorem dX1_isEmpty_11 : decode cX1_isEmpty 11 = .ok (.iconst 0, 1) := by decide +kernel
theorem dX1_isEmpty_12 : decode cX1_isEmpty 12 = .ok (.ireturn, 1) := by decide +kernel
theorem dX1_save_0 : decode cX1_save 0 = .ok (.aload_n 0, 1) := by decide +kernel
theorem dX1_save_1 : decode cX1_save 1 = .ok (.getfield 21, 3) := by decide +kernel
theorem dX1_save_4 : decode cX1_save 4 = .ok (.bipush 6, 2) := by decide +kernel
theorem dX1_save_6 : decode cX1_save 6 = .ok (.if_icmp .lt 26, 3) := by decide +kernel
theorem dX1_save_9 : decode cX1_save 9 = .ok (.aload_n 0, 1) := by decide +kernel
theorem dX1_save_10 : decode cX1_save 10 = .ok (.aload_n 0, 1) := by decide +kernel
theorem dX1_save_11 : decode cX1_save 11 = .ok (.getfield 17, 3) := by decide +kernel
theorem dX1_save_14 : decode cX1_save 14 = .ok (.iconst 1, 1) := by decide +kernel
theorem dX1_save_15 : decode cX1_save 15 = .ok (.iadd, 1) := by decide +kernel
theorem dX1_save_16 : decode cX1_save 16 = .ok (.bipush 6, 2) := by decide +kernel
theorem dX1_save_18 : decode cX1_save 18 = .ok (.irem, 1) := by decide +kernel
theorem dX1_save_19 : decode cX1_save 19 = .ok (.putfield 17, 3) := by decide +kernel
theorem dX1_save_22 : decode cX1_save 22 = .ok (.aload_n 0, 1) := by decide +kernel
theorem dX1_save_23 : decode cX1_save 23 = .ok (.dup, 1) := by decide +kernel
theorem dX1_save_24 : decode cX1_save 24 = .ok (.getfield 21, 3) := by decide +kernel
theorem dX1_save_27 : decode cX1_save 27 = .ok (.iconst 1, 1) := by decide +kernel
theorem dX1_save_28 : decode cX1_save 28 = .ok (.isub, 1) := by decide +kernel
theorem dX1_save_29 : decode cX1_save 29 = .ok (.putfield 21, 3) := by decide +kernel
theorem dX1_save_32 : decode cX1_save 32 = .ok (.aload_n 0, 1) := by decide +kernel
theorem dX1_save_33 : decode cX1_save 33 = .ok (.aload_n 0, 1) := by decide +kernel
theorem dX1_save_34 : decode cX1_save 34 = .ok (.getfield 21, 3) := by decide +kernel
theorem dX1_save_37 : decode cX1_save 37 = .ok (.invokevirtual 25, 3) := by decide +kernel
theorem dX1_save_40 : decode cX1_save 40 = .ok (.astore_n 2, 1) := by decide +kernel
theorem dX1_save_41 : decode cX1_save 41 = .ok (.aload_n 2, 1) := by decide +kernel
theorem dX1_save_42 : decode cX1_save 42 = .ok (.ifnull 8, 3) := by decide +kernel
theorem dX1_save_45 : decode cX1_save 45 = .ok (.aload_n 2, 1) := by decide +kernel
theorem dX1_save_46 : decode cX1_save 46 = .ok (.aload_n 1, 1) := by decide +kernel
theorem dX1_save_47 : decode cX1_save 47 = .ok (.invokevirtual 29, 3) := by decide +kernel
theorem dX1_save_50 : decode cX1_save 50 = .ok (.aload_n 0, 1) := by decide +kernel
theorem dX1_save_51 : decode cX1_save 51 = .ok (.dup, 1) := by decide +kernel
theorem dX1_save_52 : decode cX1_save 52 = .ok (.getfield 21, 3) := by decide +kernel
theorem dX1_save_55 : decode cX1_save 55 = .ok (.iconst 1, 1) := by decide +kernel
theorem dX1_save_56 : decode cX1_save 56 = .ok (.iadd, 1) := by decide +kernel
theorem dX1_save_57 : decode cX1_save 57 = .ok (.putfield 21, 3) := by decide +kernel
theorem dX1_save_60 : decode cX1_save 60 = .ok (.return_, 1) := by decide +kernel
theorem dX1_restoreInto_0 : decode cX1_restoreInto 0 = .ok (.aload_n 0, 1) := by decide +kernel
theorem dX1_restoreInto_1 : decode cX1_restoreInto 1 = .ok (.dup, 1) := by decide +kernel
theorem dX1_restoreInto_2 : decode cX1_restoreInto 2 = .ok (.getfield 21, 3) := by decide +kernel
theorem dX1_restoreInto_5 : decode cX1_restoreInto 5 = .ok (.iconst 1, 1) := by decide +kernel
theorem dX1_restoreInto_6 : decode cX1_restoreInto 6 = .ok (.isub, 1) := by decide +kernel
theorem dX1_restoreInto_7 : decode cX1_restoreInto 7 = .ok (.putfield 21, 3) := by decide +kernel
theorem dX1_restoreInto_10 : decode cX1_restoreInto 10 = .ok (.aload_n 0, 1) := by decide +kernel
theorem dX1_restoreInto_11 : decode cX1_restoreInto 11 = .ok (.aload_n 0, 1) := by decide +kernel
theorem dX1_restoreInto_12 : decode cX1_restoreInto 12 = .ok (.getfield 21, 3) := by decide +kernel
theorem dX1_restoreInto_15 : decode cX1_restoreInto 15 = .ok (.invokevirtual 25, 3) := by decide +kernel
theorem dX1_restoreInto_18 : decode cX1_restoreInto 18 = .ok (.astore_n 2, 1) := by decide +kernel
theorem dX1_restoreInto_19 : decode cX1_restoreInto 19 = .ok (.aload_n 2, 1) := by decide +kernel
theorem dX1_restoreInto_20 : decode cX1_restoreInto 20 = .ok (.ifnull 8, 3) := by decide +kernel
theorem dX1_restoreInto_23 : decode cX1_restoreInto 23 = .ok (.aload_n 1, 1) := by decide +kernel
theorem dX1_restoreInto_24 : decode cX1_restoreInto 24 = .ok (.aload_n 2, 1) := by decide +kernel
theorem dX1_restoreInto_25 : decode cX1_restoreInto 25 = .ok (.invokevirtual 29, 3) := by decide +kernel
theorem dX1_restoreInto_28 : decode cX1_restoreInto 28 = .ok (.return_, 1) := by decide +kernel
theorem dX1_stateAt_0 : decode cX1_stateAt 0 = .ok (.aload_n 0, 1) := by decide +kernel
theorem dX1_stateAt_1 : decode cX1_stateAt 1 = .ok (.getfield 17, 3) := by decide +kernel
theorem dX1_stateAt_4 : decode cX1_stateAt 4 = .ok (.iload_n 1, 1) := by decide +kernel
theorem dX1_stateAt_5 : decode cX1_stateAt 5 = .ok (.iadd, 1) := by decide +kernel
theorem dX1_stateAt_6 : decode cX1_stateAt 6 = .ok (.bipush 6, 2) := by decide +kernel
theorem dX1_stateAt_8 : decode cX1_stateAt 8 = .ok (.irem, 1) := by decide +kernel
theorem dX1_stateAt_9 : decode cX1_stateAt 9 = .ok (.istore_n 2, 1) := by decide +kernel
theorem dX1_stateAt_10 : decode cX1_stateAt 10 = .ok (.iload_n 2, 1) := by decide +kernel
theorem dX1_stateAt_11 : decode cX1_stateAt 11 = .ok (.ifCond .lt 21, 3) := by decide +kernel
theorem dX1_stateAt_14 : decode cX1_stateAt 14 = .ok (.iload_n 2, 1) := by decide +kernel
theorem dX1_stateAt_15 : decode cX1_stateAt 15 = .ok (.aload_n 0, 1) := by decide +kernel
theorem dX1_stateAt_16 : decode cX1_stateAt 16 = .ok (.getfield 11, 3) := by decide +kernel
theorem dX1_stateAt_19 : decode cX1_stateAt 19 = .ok (.arraylength, 1) := by decide +kernel
theorem dX1_stateAt_20 : decode cX1_stateAt 20 = .ok (.if_icmp .ge 12, 3) := by decide +kernel
theorem dX1_stateAt_23 : decode cX1_stateAt 23 = .ok (.aload_n 0, 1) := by decide +kernel
theorem dX1_stateAt_24 : decode cX1_stateAt 24 = .ok (.getfield 11, 3) := by decide +kernel
theorem dX1_stateAt_27 : decode cX1_stateAt 27 = .ok (.iload_n 2, 1) := by decide +kernel
theorem dX1_stateAt_28 : decode cX1_stateAt 28 = .ok (.aaload, 1) := by decide +kernel
theorem dX1_stateAt_29 : decode cX1_stateAt 29 = .ok (.goto 4, 3) := by decide +kernel
theorem dX1_stateAt_32 : decode cX1_stateAt 32 = .ok (.aconst_null, 1) := by decide +kernel
theorem dX1_stateAt_33 : decode cX1_stateAt 33 = .ok (.areturn, 1) := by decide +kernel
theorem dX2_init_0 : decode cX2_init 0 = .ok (.aload_n 0, 1) := by decide +kernel
theorem dX2_init_1 : decode cX2_init 1 = .ok (.invokespecial 3, 3) := by decide +kernel
theorem dX2_init_4 : decode cX2_init 4 = .ok (.return_, 1) := by decide +kernel
theorem dX2_start_0 : decode cX2_start 0 = .ok (.aload_n 0, 1) := by decide +kernel
theorem dX2_start_1 : decode cX2_start 1 = .ok (.iconst 0, 1) := by decide +kernel
theorem dX2_start_2 : decode cX2_start 2 = .ok (.putfield 11, 3) := by decide +kernel
theorem dX2_start_5 : decode cX2_start 5 = .ok (.aload_n 0, 1) := by decide +kernel
theorem dX2_start_6 : decode cX2_start 6 = .ok (.iconst 0, 1) := by decide +kernel
theorem dX2_start_7 : decode cX2_start 7 = .ok (.putfield 15, 3) := by decide +kernel
theorem dX2_start_10 : decode cX2_start 10 = .ok (.aload_n 0, 1) := by decide +kernel
theorem dX2_start_11 : decode cX2_start 11 = .ok (.iconst 0, 1) := by decide +kernel
theorem dX2_start_12 : decode cX2_start 12 = .ok (.putfield 18, 3) := by decide +kernel
theorem dX2_start_15 : decode cX2_start 15 = .ok (.aload_n 0, 1) := by decide +kernel
theorem dX2_start_16 : decode cX2_start 16 = .ok (.iconst 0, 1) := by decide +kernel
theorem dX2_start_17 : decode cX2_start 17 = .ok (.putfield 21, 3) := by decide +kernel
theorem dX2_start_20 : decode cX2_start 20 = .ok (.aload_n 0, 1) := by decide +kernel
theorem dX2_start_21 : decode cX2_start 21 = .ok (.iconst (-1), 1) := by decide +kernel
theorem dX2_start_22 : decode cX2_start 22 = .ok (.putfield 25, 3) := by decide +kernel
theorem dX2_start_25 : decode cX2_start 25 = .ok (.aload_n 0, 1) := by decide +kernel
theorem dX2_start_26 : decode cX2_start 26 = .ok (.iconst 0, 1) := by decide +kernel
theorem dX2_start_27 : decode cX2_start 27 = .ok (.putfield 28, 3) := by decide +kernel
theorem dX2_start_30 : decode cX2_start 30 = .ok (.return_, 1) := by decide +kernel
theorem dX2_mayEnd_0 : decode cX2_mayEnd 0 = .ok (.aload_n 0, 1) := by decide +kernel
theorem dX2_mayEnd_1 : decode cX2_mayEnd 1 = .ok (.getfield 11, 3) := by decide +kernel
theorem dX2_mayEnd_4 : decode cX2_mayEnd 4 = .ok (.bipush 6, 2) := by decide +kernel
theorem dX2_mayEnd_6 : decode cX2_mayEnd 6 = .ok (.if_icmp .eq 27, 3) := by decide +kernel
theorem dX2_mayEnd_9 : decode cX2_mayEnd 9 = .ok (.aload_n 0, 1) := by decide +kernel
theorem dX2_mayEnd_10 : decode cX2_mayEnd 10 = .ok (.getfield 11, 3) := by decide +kernel
theorem dX2_mayEnd_13 : decode cX2_mayEnd 13 = .ok (.bipush 8, 2) := by decide +kernel
theorem dX2_mayEnd_15 : decode cX2_mayEnd 15 = .ok (.if_icmp .eq 18, 3) := by decide +kernel
theorem dX2_mayEnd_18 : decode cX2_mayEnd 18 = .ok (.aload_n 0, 1) := by decide +kernel
theorem dX2_mayEnd_19 : decode cX2_mayEnd 19 = .ok (.getfield 11, 3) := by decide +kernel
theorem dX2_mayEnd_22 : decode cX2_mayEnd 22 = .ok (.iconst 4, 1) := by decide +kernel
theorem dX2_mayEnd_23 : decode cX2_mayEnd 23 = .ok (.if_icmp .ne 14, 3) := by decide +kernel
theorem dX2_mayEnd_26 : decode cX2_mayEnd 26 = .ok (.aload_n 0, 1) := by decide +kernel
theorem dX2_mayEnd_27 : decode cX2_mayEnd 27 = .ok (.invokevirtual 31, 3) := by decide +kernel
theorem dX2_mayEnd_30 : decode cX2_mayEnd 30 = .ok (.ifCond .ne 7, 3) := by decide +kernel
theorem dX2_mayEnd_33 : decode cX2_mayEnd 33 = .ok (.iconst 1, 1) := by decide +kernel
theorem dX2_mayEnd_34 : decode cX2_mayEnd 34 = .ok (.goto 4, 3) := by decide +kernel
theorem dX2_mayEnd_37 : decode cX2_mayEnd 37 = .ok (.iconst 0, 1) := by decide +kernel
theorem dX2_mayEnd_38 : decode cX2_mayEnd 38 = .ok (.ireturn, 1) := by decide +kernel
theorem dX2_reads_0 : decode cX2_reads 0 = .ok (.aload_n 0, 1) := by decide +kernel
theorem dX2_reads_1 : decode cX2_reads 1 = .ok (.getfield 11, 3) := by decide +kernel
theorem dX2_reads_4 : decode cX2_reads 4 = .ok (.tableswitch 137 0 7 #[48, 54, 63, 69, 75, 115, 125, 131], 48) := by decide +kernel
theorem dX2_reads_52 : decode cX2_reads 52 = .ok (.aload_n 0, 1) := by decide +kernel
theorem dX2_reads_53 : decode cX2_reads 53 = .ok (.iload_n 1, 1) := by decide +kernel
theorem dX2_reads_54 : decode cX2_reads 54 = .ok (.invokevirtual 35, 3) := by decide +kernel
theorem dX2_reads_57 : decode cX2_reads 57 = .ok (.ireturn, 1) := by decide +kernel
theorem dX2_reads_58 : decode cX2_reads 58 = .ok (.aload_n 0, 1) := by decide +kernel
theorem dX2_reads_59 : decode cX2_reads 59 = .ok (.iload_n 1, 1) := by decide +kernel
theorem dX2_reads_60 : decode cX2_reads 60 = .ok (.bipush 9, 2) := by decide +kernel
theorem dX2_reads_62 : decode cX2_reads 62 = .ok (.iconst 2, 1) := by decide +kernel
theorem dX2_reads_63 : decode cX2_reads 63 = .ok (.invokevirtual 39, 3) := by decide +kernel
theorem dX2_reads_66 : decode cX2_reads 66 = .ok (.ireturn, 1) := by decide +kernel
theorem dX2_reads_67 : decode cX2_reads 67 = .ok (.aload_n 0, 1) := by decide +kernel
theorem dX2_reads_68 : decode cX2_reads 68 = .ok (.iload_n 1, 1) := by decide +kernel
theorem dX2_reads_69 : decode cX2_reads 69 = .ok (.invokevirtual 43, 3) := by decide +kernel
theorem dX2_reads_72 : decode cX2_reads 72 = .ok (.ireturn, 1) := by decide +kernel
theorem dX2_reads_73 : decode cX2_reads 73 = .ok (.aload_n 0, 1) := by decide +kernel
theorem dX2_reads_74 : decode cX2_reads 74 = .ok (.iload_n 1, 1) := by decide +kernel
theorem dX2_reads_75 : decode cX2_reads 75 = .ok (.invokevirtual 46, 3) := by decide +kernel
theorem dX2_reads_78 : decode cX2_reads 78 = .ok (.ireturn, 1) := by decide +kernel
theorem dX2_reads_79 : decode cX2_reads 79 = .ok (.aload_n 0, 1) := by decide +kernel
theorem dX2_reads_80 : decode cX2_reads 80 = .ok (.iload_n 1, 1) := by decide +kernel
theorem dX2_reads_81 : decode cX2_reads 81 = .ok (.invokevirtual 49, 3) := by decide +kernel
theorem dX2_reads_84 : decode cX2_reads 84 = .ok (.ifCond .ne 29, 3) := by decide +kernel
theorem dX2_reads_87 : decode cX2_reads 87 = .ok (.aload_n 0, 1) := by decide +kernel
theorem dX2_reads_88 : decode cX2_reads 88 = .ok (.invokevirtual 31, 3) := by decide +kernel
theorem dX2_reads_91 : decode cX2_reads 91 = .ok (.ifCond .eq 14, 3) := by decide +kernel
theorem dX2_reads_94 : decode cX2_reads 94 = .ok (.aload_n 0, 1) := by decide +kernel
theorem dX2_reads_95 : decode cX2_reads 95 = .ok (.iload_n 1, 1) := by decide +kernel
theorem dX2_reads_96 : decode cX2_reads 96 = .ok (.invokevirtual 52, 3) := by decide +kernel
theorem dX2_reads_99 : decode cX2_reads 99 = .ok (.ifCond .eq 18, 3) := by decide +kernel
theorem dX2_reads_102 : decode cX2_reads 102 = .ok (.goto 11, 3) := by decide +kernel
theorem dX2_reads_105 : decode cX2_reads 105 = .ok (.aload_n 0, 1) := by decide +kernel
theorem dX2_reads_106 : decode cX2_reads 106 = .ok (.iload_n 1, 1) := by decide +kernel
theorem dX2_reads_107 : decode cX2_reads 107 = .ok (.invokevirtual 55, 3) := by decide +kernel
theorem dX2_reads_110 : decode cX2_reads 110 = .ok (.ifCond .eq 7, 3) := by decide +kernel
theorem dX2_reads_113 : decode cX2_reads 113 = .ok (.iconst 1, 1) := by decide +kernel
theorem dX2_reads_114 : decode cX2_reads 114 = .ok (.goto 4, 3) := by decide +kernel
theorem dX2_reads_117 : decode cX2_reads 117 = .ok (.iconst 0, 1) := by decide +kernel
theorem dX2_reads_118 : decode cX2_reads 118 = .ok (.ireturn, 1) := by decide +kernel
theorem dX2_reads_119 : decode cX2_reads 119 = .ok (.aload_n 0, 1) := by decide +kernel
theorem dX2_reads_120 : decode cX2_reads 120 = .ok (.iload_n 1, 1) := by decide +kernel
theorem dX2_reads_121 : decode cX2_reads 121 = .ok (.bipush 6, 2) := by decide +kernel
theorem dX2_reads_123 : decode cX2_reads 123 = .ok (.bipush 6, 2) := by decide +kernel
theorem dX2_reads_125 : decode cX2_reads 125 = .ok (.invokevirtual 39, 3) := by decide +kernel
theorem dX2_reads_128 : decode cX2_reads 128 = .ok (.ireturn, 1) := by decide +kernel
theorem dX2_reads_129 : decode cX2_reads 129 = .ok (.aload_n 0, 1) := by decide +kernel
theorem dX2_reads_130 : decode cX2_reads 130 = .ok (.iload_n 1, 1) := by decide +kernel
theorem dX2_reads_131 : decode cX2_reads 131 = .ok (.invokevirtual 55, 3) := by decide +kernel
theorem dX2_reads_134 : decode cX2_reads 134 = .ok (.ireturn, 1) := by decide +kernel
theorem dX2_reads_135 : decode cX2_reads 135 = .ok (.aload_n 0, 1) := by decide +kernel
theorem dX2_reads_136 : decode cX2_reads 136 = .ok (.iload_n 1, 1) := by decide +kernel
theorem dX2_reads_137 : decode cX2_reads 137 = .ok (.invokevirtual 58, 3) := by decide +kernel
theorem dX2_reads_140 : decode cX2_reads 140 = .ok (.ireturn, 1) := by decide +kernel
theorem dX2_reads_141 : decode cX2_reads 141 = .ok (.aload_n 0, 1) := by decide +kernel
theorem dX2_reads_142 : decode cX2_reads 142 = .ok (.iload_n 1, 1) := by decide +kernel
theorem dX2_reads_143 : decode cX2_reads 143 = .ok (.invokevirtual 61, 3) := by decide +kernel
theorem dX2_reads_146 : decode cX2_reads 146 = .ok (.ireturn, 1) := by decide +kernel
theorem dX2_hasWeekday_0 : decode cX2_hasWeekday 0 = .ok (.aload_n 0, 1) := by decide +kernel
theorem dX2_hasWeekday_1 : decode cX2_hasWeekday 1 = .ok (.getfield 15, 3) := by decide +kernel
theorem dX2_hasWeekday_4 : decode cX2_hasWeekday 4 = .ok (.iconst 1, 1) := by decide +kernel
theorem dX2_hasWeekday_5 : decode cX2_hasWeekday 5 = .ok (.if_icmp .eq 11, 3) := by decide +kernel
theorem dX2_hasWeekday_8 : decode cX2_hasWeekday 8 = .ok (.aload_n 0, 1) := by decide +kernel
theorem dX2_hasWeekday_9 : decode cX2_hasWeekday 9 = .ok (.getfield 15, 3) := by decide +kernel
theorem dX2_hasWeekday_12 : decode cX2_hasWeekday 12 = .ok (.iconst 2, 1) := by decide +kernel
theorem dX2_hasWeekday_13 : decode cX2_hasWeekday 13 = .ok (.if_icmp .ne 7, 3) := by decide +kernel
theorem dX2_hasWeekday_16 : decode cX2_hasWeekday 16 = .ok (.iconst 1, 1) := by decide +kernel
theorem dX2_hasWeekday_17 : decode cX2_hasWeekday 17 = .ok (.goto 4, 3) := by decide +kernel
theorem dX2_hasWeekday_20 : decode cX2_hasWeekday 20 = .ok (.iconst 0, 1) := by decide +kernel
theorem dX2_hasWeekday_21 : decode cX2_hasWeekday 21 = .ok (.ireturn, 1) := by decide +kernel
theorem dX2_isDigit_0 : decode cX2_isDigit 0 = .ok (.iload_n 0, 1) := by decide +kernel
theorem dX2_isDigit_1 : decode cX2_isDigit 1 = .ok (.bipush 48, 2) := by decide +kernel
theorem dX2_isDigit_3 : decode cX2_isDigit 3 = .ok (.if_icmp .lt 13, 3) := by decide +kernel
theorem dX2_isDigit_6 : decode cX2_isDigit 6 = .ok (.iload_n 0, 1) := by decide +kernel
theorem dX2_isDigit_7 : decode cX2_isDigit 7 = .ok (.bipush 57, 2) := by decide +kernel
theorem dX2_isDigit_9 : decode cX2_isDigit 9 = .ok (.if_icmp .gt 7, 3) := by decide +kernel
theorem dX2_isDigit_12 : decode cX2_isDigit 12 = .ok (.iconst 1, 1) := by decide +kernel
theorem dX2_isDigit_13 : decode cX2_isDigit 13 = .ok (.goto 4, 3) := by decide +kernel
theorem dX2_isDigit_16 : decode cX2_isDigit 16 = .ok (.iconst 0, 1) := by decide +kernel
theorem dX2_isDigit_17 : decode cX2_isDigit 17 = .ok (.ireturn, 1) := by decide +kernel
theorem dX2_readsRule_0 : decode cX2_readsRule 0 = .ok (.iload_n 1, 1) := by decide +kernel
theorem dX2_readsRule_1 : decode cX2_readsRule 1 = .ok (.lookupswitch 75 #[(97, 67), (100, 43), (109, 59), (119, 51)], 43) := by decide +kernel
theorem dX2_readsRule_44 : decode cX2_readsRule 44 = .ok (.aload_n 0, 1) := by decide +kernel
theorem dX2_readsRule_45 : decode cX2_readsRule 45 = .ok (.iconst 0, 1) := by decide +kernel
theorem dX2_readsRule_46 : decode cX2_readsRule 46 = .ok (.putfield 15, 3) := by decide +kernel
theorem dX2_readsRule_49 : decode cX2_readsRule 49 = .ok (.goto 29, 3) := by decide +kernel
theorem dX2_readsRule_52 : decode cX2_readsRule 52 = .ok (.aload_n 0, 1) := by decide +kernel
theorem dX2_readsRule_53 : decode cX2_readsRule 53 = .ok (.iconst 1, 1) := by decide +kernel
theorem dX2_readsRule_54 : decode cX2_readsRule 54 = .ok (.putfield 15, 3) := by decide +kernel
theorem dX2_readsRule_57 : decode cX2_readsRule 57 = .ok (.goto 21, 3) := by decide +kernel
theorem dX2_readsRule_60 : decode cX2_readsRule 60 = .ok (.aload_n 0, 1) := by decide +kernel
theorem dX2_readsRule_61 : decode cX2_readsRule 61 = .ok (.iconst 2, 1) := by decide +kernel
theorem dX2_readsRule_62 : decode cX2_readsRule 62 = .ok (.putfield 15, 3) := by decide +kernel
theorem dX2_readsRule_65 : decode cX2_readsRule 65 = .ok (.goto 13, 3) := by decide +kernel
theorem dX2_readsRule_68 : decode cX2_readsRule 68 = .ok (.aload_n 0, 1) := by decide +kernel
theorem dX2_readsRule_69 : decode cX2_readsRule 69 = .ok (.iconst 3, 1) := by decide +kernel
theorem dX2_readsRule_70 : decode cX2_readsRule 70 = .ok (.putfield 15, 3) := by decide +kernel
theorem dX2_readsRule_73 : decode cX2_readsRule 73 = .ok (.goto 5, 3) := by decide +kernel
theorem dX2_readsRule_76 : decode cX2_readsRule 76 = .ok (.iconst 0, 1) := by decide +kernel
theorem dX2_readsRule_77 : decode cX2_readsRule 77 = .ok (.ireturn, 1) := by decide +kernel
theorem dX2_readsRule_78 : decode cX2_readsRule 78 = .ok (.aload_n 0, 1) := by decide +kernel
theorem dX2_readsRule_79 : decode cX2_readsRule 79 = .ok (.aload_n 0, 1) := by decide +kernel
theorem dX2_readsRule_80 : decode cX2_readsRule 80 = .ok (.getfield 15, 3) := by decide +kernel
theorem dX2_readsRule_83 : decode cX2_readsRule 83 = .ok (.iconst 3, 1) := by decide +kernel
theorem dX2_readsRule_84 : decode cX2_readsRule 84 = .ok (.if_icmp .ne 7, 3) := by decide +kernel
theorem dX2_readsRule_87 : decode cX2_readsRule 87 = .ok (.iconst 1, 1) := by decide +kernel
theorem dX2_readsRule_88 : decode cX2_readsRule 88 = .ok (.goto 4, 3) := by decide +kernel
theorem dX2_readsRule_91 : decode cX2_readsRule 91 = .ok (.iconst 3, 1) := by decide +kernel
theorem dX2_readsRule_92 : decode cX2_readsRule 92 = .ok (.putfield 11, 3) := by decide +kernel
theorem dX2_readsRule_95 : decode cX2_readsRule 95 = .ok (.iconst 1, 1) := by decide +kernel
theorem dX2_readsRule_96 : decode cX2_readsRule 96 = .ok (.ireturn, 1) := by decide +kernel
theorem dX2_readsOther_0 : decode cX2_readsOther 0 = .ok (.iload_n 1, 1) := by decide +kernel
theorem dX2_readsOther_1 : decode cX2_readsOther 1 = .ok (.bipush 48, 2) := by decide +kernel
theorem dX2_readsOther_3 : decode cX2_readsOther 3 = .ok (.if_icmp .lt 11, 3) := by decide +kernel
theorem dX2_readsOther_6 : decode cX2_readsOther 6 = .ok (.iload_n 1, 1) := by decide +kernel
theorem dX2_readsOther_7 : decode cX2_readsOther 7 = .ok (.bipush 48, 2) := by decide +kernel
theorem dX2_readsOther_9 : decode cX2_readsOther 9 = .ok (.iload_n 2, 1) := by decide +kernel
theorem dX2_readsOther_10 : decode cX2_readsOther 10 = .ok (.iadd, 1) := by decide +kernel
theorem dX2_readsOther_11 : decode cX2_readsOther 11 = .ok (.if_icmp .le 5, 3) := by decide +kernel
theorem dX2_readsOther_14 : decode cX2_readsOther 14 = .ok (.iconst 0, 1) := by decide +kernel
theorem dX2_readsOther_15 : decode cX2_readsOther 15 = .ok (.ireturn, 1) := by decide +kernel
theorem dX2_readsOther_16 : decode cX2_readsOther 16 = .ok (.aload_n 0, 1) := by decide +kernel
theorem dX2_readsOther_17 : decode cX2_readsOther 17 = .ok (.iload_n 1, 1) := by decide +kernel
theorem dX2_readsOther_18 : decode cX2_readsOther 18 = .ok (.bipush 48, 2) := by decide +kernel
theorem dX2_readsOther_20 : decode cX2_readsOther 20 = .ok (.isub, 1) := by decide +kernel
theorem dX2_readsOther_21 : decode cX2_readsOther 21 = .ok (.putfield 25, 3) := by decide +kernel
theorem dX2_readsOther_24 : decode cX2_readsOther 24 = .ok (.aload_n 0, 1) := by decide +kernel
theorem dX2_readsOther_25 : decode cX2_readsOther 25 = .ok (.iload_n 3, 1) := by decide +kernel
theorem dX2_readsOther_26 : decode cX2_readsOther 26 = .ok (.putfield 11, 3) := by decide +kernel
theorem dX2_readsOther_29 : decode cX2_readsOther 29 = .ok (.iconst 1, 1) := by decide +kernel
theorem dX2_readsOther_30 : decode cX2_readsOther 30 = .ok (.ireturn, 1) := by decide +kernel
theorem dX2_readsSign_0 : decode cX2_readsSign 0 = .ok (.iload_n 1, 1) := by decide +kernel
theorem dX2_readsSign_1 : decode cX2_readsSign 1 = .ok (.bipush 43, 2) := by decide +kernel
theorem dX2_readsSign_3 : decode cX2_readsSign 3 = .ok (.if_icmp .eq 11, 3) := by decide +kernel
theorem dX2_readsSign_6 : decode cX2_readsSign 6 = .ok (.iload_n 1, 1) := by decide +kernel
theorem dX2_readsSign_7 : decode cX2_readsSign 7 = .ok (.bipush 45, 2) := by decide +kernel
theorem dX2_readsSign_9 : decode cX2_readsSign 9 = .ok (.if_icmp .eq 5, 3) := by decide +kernel
theorem dX2_readsSign_12 : decode cX2_readsSign 12 = .ok (.iconst 0, 1) := by decide +kernel
theorem dX2_readsSign_13 : decode cX2_readsSign 13 = .ok (.ireturn, 1) := by decide +kernel
theorem dX2_readsSign_14 : decode cX2_readsSign 14 = .ok (.aload_n 0, 1) := by decide +kernel
theorem dX2_readsSign_15 : decode cX2_readsSign 15 = .ok (.iload_n 1, 1) := by decide +kernel
theorem dX2_readsSign_16 : decode cX2_readsSign 16 = .ok (.bipush 45, 2) := by decide +kernel
theorem dX2_readsSign_18 : decode cX2_readsSign 18 = .ok (.if_icmp .ne 7, 3) := by decide +kernel
theorem dX2_readsSign_21 : decode cX2_readsSign 21 = .ok (.iconst 1, 1) := by decide +kernel
theorem dX2_readsSign_22 : decode cX2_readsSign 22 = .ok (.goto 4, 3) := by decide +kernel
theorem dX2_readsSign_25 : decode cX2_readsSign 25 = .ok (.iconst 0, 1) := by decide +kernel
theorem dX2_readsSign_26 : decode cX2_readsSign 26 = .ok (.putfield 21, 3) := by decide +kernel
theorem dX2_readsSign_29 : decode cX2_readsSign 29 = .ok (.aload_n 0, 1) := by decide +kernel
theorem dX2_readsSign_30 : decode cX2_readsSign 30 = .ok (.iconst 3, 1) := by decide +kernel
theorem dX2_readsSign_31 : decode cX2_readsSign 31 = .ok (.putfield 11, 3) := by decide +kernel
theorem dX2_readsSign_34 : decode cX2_readsSign 34 = .ok (.iconst 1, 1) := by decide +kernel
theorem dX2_readsSign_35 : decode cX2_readsSign 35 = .ok (.ireturn, 1) := by decide +kernel
theorem dX2_readsFirstDigit_0 : decode cX2_readsFirstDigit 0 = .ok (.iload_n 1, 1) := by decide +kernel
theorem dX2_readsFirstDigit_1 : decode cX2_readsFirstDigit 1 = .ok (.invokestatic 64, 3) := by decide +kernel
theorem dX2_readsFirstDigit_4 : decode cX2_readsFirstDigit 4 = .ok (.ifCond .ne 5, 3) := by decide +kernel
theorem dX2_readsFirstDigit_7 : decode cX2_readsFirstDigit 7 = .ok (.iconst 0, 1) := by decide +kernel
theorem dX2_readsFirstDigit_8 : decode cX2_readsFirstDigit 8 = .ok (.ireturn, 1) := by decide +kernel
theorem dX2_readsFirstDigit_9 : decode cX2_readsFirstDigit 9 = .ok (.aload_n 0, 1) := by decide +kernel
theorem dX2_readsFirstDigit_10 : decode cX2_readsFirstDigit 10 = .ok (.iload_n 1, 1) := by decide +kernel
theorem dX2_readsFirstDigit_11 : decode cX2_readsFirstDigit 11 = .ok (.bipush 48, 2) := by decide +kernel
theorem dX2_readsFirstDigit_13 : decode cX2_readsFirstDigit 13 = .ok (.isub, 1) := by decide +kernel
theorem dX2_readsFirstDigit_14 : decode cX2_readsFirstDigit 14 = .ok (.putfield 18, 3) := by decide +kernel
theorem dX2_readsFirstDigit_17 : decode cX2_readsFirstDigit 17 = .ok (.aload_n 0, 1) := by decide +kernel
theorem dX2_readsFirstDigit_18 : decode cX2_readsFirstDigit 18 = .ok (.iconst 4, 1) := by decide +kernel
theorem dX2_readsFirstDigit_19 : decode cX2_readsFirstDigit 19 = .ok (.putfield 11, 3) := by decide +kernel
theorem dX2_readsFirstDigit_22 : decode cX2_readsFirstDigit 22 = .ok (.iconst 1, 1) := by decide +kernel
theorem dX2_readsFirstDigit_23 : decode cX2_readsFirstDigit 23 = .ok (.ireturn, 1) := by decide +kernel
theorem dX2_readsNextDigit_0 : decode cX2_readsNextDigit 0 = .ok (.aload_n 0, 1) := by decide +kernel
theorem dX2_readsNextDigit_1 : decode cX2_readsNextDigit 1 = .ok (.getfield 18, 3) := by decide +kernel
theorem dX2_readsNextDigit_4 : decode cX2_readsNextDigit 4 = .ok (.bipush 10, 2) := by decide +kernel
theorem dX2_readsNextDigit_6 : decode cX2_readsNextDigit 6 = .ok (.imul, 1) := by decide +kernel
theorem dX2_readsNextDigit_7 : decode cX2_readsNextDigit 7 = .ok (.iload_n 1, 1) := by decide +kernel
theorem dX2_readsNextDigit_8 : decode cX2_readsNextDigit 8 = .ok (.iadd, 1) := by decide +kernel
theorem dX2_readsNextDigit_9 : decode cX2_readsNextDigit 9 = .ok (.bipush 48, 2) := by decide +kernel
theorem dX2_readsNextDigit_11 : decode cX2_readsNextDigit 11 = .ok (.isub, 1) := by decide +kernel
theorem dX2_readsNextDigit_12 : decode cX2_readsNextDigit 12 = .ok (.istore_n 2, 1) := by decide +kernel
theorem dX2_readsNextDigit_13 : decode cX2_readsNextDigit 13 = .ok (.aload_n 0, 1) := by decide +kernel
theorem dX2_readsNextDigit_14 : decode cX2_readsNextDigit 14 = .ok (.getfield 15, 3) := by decide +kernel
theorem dX2_readsNextDigit_17 : decode cX2_readsNextDigit 17 = .ok (.iconst 3, 1) := by decide +kernel
theorem dX2_readsNextDigit_18 : decode cX2_readsNextDigit 18 = .ok (.if_icmp .ne 8, 3) := by decide +kernel
theorem dX2_readsNextDigit_21 : decode cX2_readsNextDigit 21 = .ok (.bipush 90, 2) := by decide +kernel
theorem dX2_readsNextDigit_23 : decode cX2_readsNextDigit 23 = .ok (.goto 6, 3) := by decide +kernel
theorem dX2_readsNextDigit_26 : decode cX2_readsNextDigit 26 = .ok (.sipush 365, 3) := by decide +kernel
theorem dX2_readsNextDigit_29 : decode cX2_readsNextDigit 29 = .ok (.istore_n 3, 1) := by decide +kernel
theorem dX2_readsNextDigit_30 : decode cX2_readsNextDigit 30 = .ok (.iload_n 1, 1) := by decide +kernel
theorem dX2_readsNextDigit_31 : decode cX2_readsNextDigit 31 = .ok (.invokestatic 64, 3) := by decide +kernel
theorem dX2_readsNextDigit_34 : decode cX2_readsNextDigit 34 = .ok (.ifCond .eq 15, 3) := by decide +kernel
theorem dX2_readsNextDigit_37 : decode cX2_readsNextDigit 37 = .ok (.aload_n 0, 1) := by decide +kernel
theorem dX2_readsNextDigit_38 : decode cX2_readsNextDigit 38 = .ok (.getfield 18, 3) := by decide +kernel
theorem dX2_readsNextDigit_41 : decode cX2_readsNextDigit 41 = .ok (.ifCond .eq 8, 3) := by decide +kernel
theorem dX2_readsNextDigit_44 : decode cX2_readsNextDigit 44 = .ok (.iload_n 2, 1) := by decide +kernel
theorem dX2_readsNextDigit_45 : decode cX2_readsNextDigit 45 = .ok (.iload_n 3, 1) := by decide +kernel
theorem dX2_readsNextDigit_46 : decode cX2_readsNextDigit 46 = .ok (.if_icmp .le 5, 3) := by decide +kernel
theorem dX2_readsNextDigit_49 : decode cX2_readsNextDigit 49 = .ok (.iconst 0, 1) := by decide +kernel
theorem dX2_readsNextDigit_50 : decode cX2_readsNextDigit 50 = .ok (.ireturn, 1) := by decide +kernel
theorem dX2_readsNextDigit_51 : decode cX2_readsNextDigit 51 = .ok (.aload_n 0, 1) := by decide +kernel
theorem dX2_readsNextDigit_52 : decode cX2_readsNextDigit 52 = .ok (.iload_n 2, 1) := by decide +kernel
theorem dX2_readsNextDigit_53 : decode cX2_readsNextDigit 53 = .ok (.putfield 18, 3) := by decide +kernel
theorem dX2_readsNextDigit_56 : decode cX2_readsNextDigit 56 = .ok (.iconst 1, 1) := by decide +kernel
theorem dX2_readsNextDigit_57 : decode cX2_readsNextDigit 57 = .ok (.ireturn, 1) := by decide +kernel
theorem dX2_readsComma_0 : decode cX2_readsComma 0 = .ok (.iload_n 1, 1) := by decide +kernel
theorem dX2_readsComma_1 : decode cX2_readsComma 1 = .ok (.bipush 44, 2) := by decide +kernel
theorem dX2_readsComma_3 : decode cX2_readsComma 3 = .ok (.if_icmp .eq 5, 3) := by decide +kernel
theorem dX2_readsComma_6 : decode cX2_readsComma 6 = .ok (.iconst 0, 1) := by decide +kernel
theorem dX2_readsComma_7 : decode cX2_readsComma 7 = .ok (.ireturn, 1) := by decide +kernel
theorem dX2_readsComma_8 : decode cX2_readsComma 8 = .ok (.aload_n 0, 1) := by decide +kernel
theorem dX2_readsComma_9 : decode cX2_readsComma 9 = .ok (.iconst 5, 1) := by decide +kernel
theorem dX2_readsComma_10 : decode cX2_readsComma 10 = .ok (.putfield 11, 3) := by decide +kernel
theorem dX2_readsComma_13 : decode cX2_readsComma 13 = .ok (.iconst 1, 1) := by decide +kernel
theorem dX2_readsComma_14 : decode cX2_readsComma 14 = .ok (.ireturn, 1) := by decide +kernel
theorem dX2_readsBehindRule_0 : decode cX2_readsBehindRule 0 = .ok (.iload_n 1, 1) := by decide +kernel
theorem dX2_readsBehindRule_1 : decode cX2_readsBehindRule 1 = .ok (.bipush 94, 2) := by decide +kernel
theorem dX2_readsBehindRule_3 : decode cX2_readsBehindRule 3 = .ok (.if_icmp .eq 9, 3) := by decide +kernel
theorem dX2_readsBehindRule_6 : decode cX2_readsBehindRule 6 = .ok (.aload_n 0, 1) := by decide +kernel
theorem dX2_readsBehindRule_7 : decode cX2_readsBehindRule 7 = .ok (.iload_n 1, 1) := by decide +kernel
theorem dX2_readsBehindRule_8 : decode cX2_readsBehindRule 8 = .ok (.invokevirtual 61, 3) := by decide +kernel
theorem dX2_readsBehindRule_11 : decode cX2_readsBehindRule 11 = .ok (.ireturn, 1) := by decide +kernel
theorem dX2_readsBehindRule_12 : decode cX2_readsBehindRule 12 = .ok (.aload_n 0, 1) := by decide +kernel
theorem dX2_readsBehindRule_13 : decode cX2_readsBehindRule 13 = .ok (.bipush 7, 2) := by decide +kernel
theorem dX2_readsBehindRule_15 : decode cX2_readsBehindRule 15 = .ok (.putfield 11, 3) := by decide +kernel
theorem dX2_readsBehindRule_18 : decode cX2_readsBehindRule 18 = .ok (.iconst 1, 1) := by decide +kernel
theorem dX2_readsBehindRule_19 : decode cX2_readsBehindRule 19 = .ok (.ireturn, 1) := by decide +kernel
theorem dX2_readsRank_0 : decode cX2_readsRank 0 = .ok (.iload_n 1, 1) := by decide +kernel
theorem dX2_readsRank_1 : decode cX2_readsRank 1 = .ok (.invokestatic 64, 3) := by decide +kernel
theorem dX2_readsRank_4 : decode cX2_readsRank 4 = .ok (.ifCond .ne 5, 3) := by decide +kernel
theorem dX2_readsRank_7 : decode cX2_readsRank 7 = .ok (.iconst 0, 1) := by decide +kernel
theorem dX2_readsRank_8 : decode cX2_readsRank 8 = .ok (.ireturn, 1) := by decide +kernel
theorem dX2_readsRank_9 : decode cX2_readsRank 9 = .ok (.aload_n 0, 1) := by decide +kernel
theorem dX2_readsRank_10 : decode cX2_readsRank 10 = .ok (.iload_n 1, 1) := by decide +kernel
theorem dX2_readsRank_11 : decode cX2_readsRank 11 = .ok (.bipush 48, 2) := by decide +kernel
theorem dX2_readsRank_13 : decode cX2_readsRank 13 = .ok (.isub, 1) := by decide +kernel
theorem dX2_readsRank_14 : decode cX2_readsRank 14 = .ok (.putfield 28, 3) := by decide +kernel
theorem dX2_readsRank_17 : decode cX2_readsRank 17 = .ok (.aload_n 0, 1) := by decide +kernel
theorem dX2_readsRank_18 : decode cX2_readsRank 18 = .ok (.bipush 8, 2) := by decide +kernel
theorem dX2_readsRank_20 : decode cX2_readsRank 20 = .ok (.putfield 11, 3) := by decide +kernel
theorem dX2_readsRank_23 : decode cX2_readsRank 23 = .ok (.iconst 1, 1) := by decide +kernel
theorem dX2_readsRank_24 : decode cX2_readsRank 24 = .ok (.ireturn, 1) := by decide +kernel
theorem dX2_readsSeparator_0 : decode cX2_readsSeparator 0 = .ok (.iload_n 1, 1) := by decide +kernel
theorem dX2_readsSeparator_1 : decode cX2_readsSeparator 1 = .ok (.bipush 59, 2) := by decide +kernel
theorem dX2_readsSeparator_3 : decode cX2_readsSeparator 3 = .ok (.if_icmp .eq 5, 3) := by decide +kernel
theorem dX2_readsSeparator_6 : decode cX2_readsSeparator 6 = .ok (.iconst 0, 1) := by decide +kernel
theorem dX2_readsSeparator_7 : decode cX2_readsSeparator 7 = .ok (.ireturn, 1) := by decide +kernel
theorem dX2_readsSeparator_8 : decode cX2_readsSeparator 8 = .ok (.aload_n 0, 1) := by decide +kernel
theorem dX2_readsSeparator_9 : decode cX2_readsSeparator 9 = .ok (.invokevirtual 67, 3) := by decide +kernel
theorem dX2_readsSeparator_12 : decode cX2_readsSeparator 12 = .ok (.iconst 1, 1) := by decide +kernel
theorem dX2_readsSeparator_13 : decode cX2_readsSeparator 13 = .ok (.ireturn, 1) := by decide +kernel
theorem dX3_init_0 : decode cX3_init 0 = .ok (.aload_n 0, 1) := by decide +kernel
theorem dX3_init_1 : decode cX3_init 1 = .ok (.invokespecial 3, 3) := by decide +kernel
theorem dX3_init_4 : decode cX3_init 4 = .ok (.aload_n 0, 1) := by decide +kernel
theorem dX3_init_5 : decode cX3_init 5 = .ok (.new 9, 3) := by decide +kernel
theorem dX3_init_8 : decode cX3_init 8 = .ok (.dup, 1) := by decide +kernel
theorem dX3_init_9 : decode cX3_init 9 = .ok (.bipush 10, 2) := by decide +kernel
theorem dX3_init_11 : decode cX3_init 11 = .ok (.invokespecial 11, 3) := by decide +kernel
theorem dX3_init_14 : decode cX3_init 14 = .ok (.putfield 14, 3) := by decide +kernel
theorem dX3_init_17 : decode cX3_init 17 = .ok (.aload_n 0, 1) := by decide +kernel
theorem dX3_init_18 : decode cX3_init 18 = .ok (.new 9, 3) := by decide +kernel
theorem dX3_init_21 : decode cX3_init 21 = .ok (.dup, 1) := by decide +kernel
theorem dX3_init_22 : decode cX3_init 22 = .ok (.bipush 10, 2) := by decide +kernel
theorem dX3_init_24 : decode cX3_init 24 = .ok (.invokespecial 11, 3) := by decide +kernel
theorem dX3_init_27 : decode cX3_init 27 = .ok (.putfield 20, 3) := by decide +kernel
theorem dX3_init_30 : decode cX3_init 30 = .ok (.return_, 1) := by decide +kernel
theorem dX3_reckon_0 : decode cX3_reckon 0 = .ok (.aload_n 0, 1) := by decide +kernel
theorem dX3_reckon_1 : decode cX3_reckon 1 = .ok (.iload_n 2, 1) := by decide +kernel
theorem dX3_reckon_2 : decode cX3_reckon 2 = .ok (.invokestatic 23, 3) := by decide +kernel
theorem dX3_reckon_5 : decode cX3_reckon 5 = .ok (.putfield 27, 3) := by decide +kernel
theorem dX3_reckon_8 : decode cX3_reckon 8 = .ok (.aload_n 0, 1) := by decide +kernel
theorem dX3_reckon_9 : decode cX3_reckon 9 = .ok (.iload_n 2, 1) := by decide +kernel
theorem dX3_reckon_10 : decode cX3_reckon 10 = .ok (.invokestatic 31, 3) := by decide +kernel
theorem dX3_reckon_13 : decode cX3_reckon 13 = .ok (.putfield 34, 3) := by decide +kernel
theorem dX3_reckon_16 : decode cX3_reckon 16 = .ok (.aload_n 0, 1) := by decide +kernel
theorem dX3_reckon_17 : decode cX3_reckon 17 = .ok (.iload_n 2, 1) := by decide +kernel
theorem dX3_reckon_18 : decode cX3_reckon 18 = .ok (.iload_n 3, 1) := by decide +kernel
theorem dX3_reckon_19 : decode cX3_reckon 19 = .ok (.aload_n 1, 1) := by decide +kernel
theorem dX3_reckon_20 : decode cX3_reckon 20 = .ok (.getfield 37, 3) := by decide +kernel
theorem dX3_reckon_23 : decode cX3_reckon 23 = .ok (.invokestatic 42, 3) := by decide +kernel
theorem dX3_reckon_26 : decode cX3_reckon 26 = .ok (.putfield 46, 3) := by decide +kernel
theorem dX3_reckon_29 : decode cX3_reckon 29 = .ok (.iconst 0, 1) := by decide +kernel
theorem dX3_reckon_30 : decode cX3_reckon 30 = .ok (.istore 4, 2) := by decide +kernel
theorem dX3_reckon_32 : decode cX3_reckon 32 = .ok (.iload 4, 2) := by decide +kernel
theorem dX3_reckon_34 : decode cX3_reckon 34 = .ok (.aload_n 1, 1) := by decide +kernel
theorem dX3_reckon_35 : decode cX3_reckon 35 = .ok (.getfield 49, 3) := by decide +kernel
theorem dX3_reckon_38 : decode cX3_reckon 38 = .ok (.if_icmp .ge 29, 3) := by decide +kernel
theorem dX3_reckon_41 : decode cX3_reckon 41 = .ok (.aload_n 0, 1) := by decide +kernel
theorem dX3_reckon_42 : decode cX3_reckon 42 = .ok (.getfield 14, 3) := by decide +kernel
theorem dX3_reckon_45 : decode cX3_reckon 45 = .ok (.iload 4, 2) := by decide +kernel
theorem dX3_reckon_47 : decode cX3_reckon 47 = .ok (.aload_n 0, 1) := by decide +kernel
theorem dX3_reckon_48 : decode cX3_reckon 48 = .ok (.aload_n 0, 1) := by decide +kernel
theorem dX3_reckon_49 : decode cX3_reckon 49 = .ok (.aload_n 1, 1) := by decide +kernel
theorem dX3_reckon_50 : decode cX3_reckon 50 = .ok (.iload 4, 2) := by decide +kernel
theorem dX3_reckon_52 : decode cX3_reckon 52 = .ok (.invokevirtual 52, 3) := by decide +kernel
theorem dX3_reckon_55 : decode cX3_reckon 55 = .ok (.invokevirtual 56, 3) := by decide +kernel
theorem dX3_reckon_58 : decode cX3_reckon 58 = .ok (.invokevirtual 59, 3) := by decide +kernel
theorem dX3_reckon_61 : decode cX3_reckon 61 = .ok (.iinc 4 1, 3) := by decide +kernel
theorem dX3_reckon_64 : decode cX3_reckon 64 = .ok (.goto (-32), 3) := by decide +kernel
theorem dX3_reckon_67 : decode cX3_reckon 67 = .ok (.aload_n 0, 1) := by decide +kernel
theorem dX3_reckon_68 : decode cX3_reckon 68 = .ok (.getfield 20, 3) := by decide +kernel
theorem dX3_reckon_71 : decode cX3_reckon 71 = .ok (.invokevirtual 63, 3) := by decide +kernel
theorem dX3_reckon_74 : decode cX3_reckon 74 = .ok (.bipush 9, 2) := by decide +kernel
theorem dX3_reckon_76 : decode cX3_reckon 76 = .ok (.istore 4, 2) := by decide +kernel
theorem dX3_reckon_78 : decode cX3_reckon 78 = .ok (.iload 4, 2) := by decide +kernel
theorem dX3_reckon_80 : decode cX3_reckon 80 = .ok (.ifCond .lt 16, 3) := by decide +kernel
theorem dX3_reckon_83 : decode cX3_reckon 83 = .ok (.aload_n 0, 1) := by decide +kernel
theorem dX3_reckon_84 : decode cX3_reckon 84 = .ok (.aload_n 1, 1) := by decide +kernel
theorem dX3_reckon_85 : decode cX3_reckon 85 = .ok (.iload 4, 2) := by decide +kernel
theorem dX3_reckon_87 : decode cX3_reckon 87 = .ok (.invokevirtual 66, 3) := by decide +kernel
theorem dX3_reckon_90 : decode cX3_reckon 90 = .ok (.iinc 4 (-1), 3) := by decide +kernel
theorem dX3_reckon_93 : decode cX3_reckon 93 = .ok (.goto (-15), 3) := by decide +kernel
theorem dX3_reckon_96 : decode cX3_reckon 96 = .ok (.return_, 1) := by decide +kernel
theorem dX3_movedCount_0 : decode cX3_movedCount 0 = .ok (.iconst 0, 1) := by decide +kernel
theorem dX3_movedCount_1 : decode cX3_movedCount 1 = .ok (.istore_n 2, 1) := by decide +kernel
theorem dX3_movedCount_2 : decode cX3_movedCount 2 = .ok (.iconst 0, 1) := by decide +kernel
theorem dX3_movedCount_3 : decode cX3_movedCount 3 = .ok (.istore_n 3, 1) := by decide +kernel
theorem dX3_movedCount_4 : decode cX3_movedCount 4 = .ok (.iload_n 3, 1) := by decide +kernel
theorem dX3_movedCount_5 : decode cX3_movedCount 5 = .ok (.iload_n 1, 1) := by decide +kernel
theorem dX3_movedCount_6 : decode cX3_movedCount 6 = .ok (.if_icmp .ge 41, 3) := by decide +kernel
theorem dX3_movedCount_9 : decode cX3_movedCount 9 = .ok (.aload_n 0, 1) := by decide +kernel
theorem dX3_movedCount_10 : decode cX3_movedCount 10 = .ok (.getfield 20, 3) := by decide +kernel
theorem dX3_movedCount_13 : decode cX3_movedCount 13 = .ok (.iload_n 3, 1) := by decide +kernel
theorem dX3_movedCount_14 : decode cX3_movedCount 14 = .ok (.invokevirtual 70, 3) := by decide +kernel
theorem dX3_movedCount_17 : decode cX3_movedCount 17 = .ok (.istore 4, 2) := by decide +kernel
theorem dX3_movedCount_19 : decode cX3_movedCount 19 = .ok (.iload 4, 2) := by decide +kernel
theorem dX3_movedCount_21 : decode cX3_movedCount 21 = .ok (.iconst (-1), 1) := by decide +kernel
theorem dX3_movedCount_22 : decode cX3_movedCount 22 = .ok (.if_icmp .eq 19, 3) := by decide +kernel
theorem dX3_movedCount_25 : decode cX3_movedCount 25 = .ok (.iload 4, 2) := by decide +kernel
theorem dX3_movedCount_27 : decode cX3_movedCount 27 = .ok (.aload_n 0, 1) := by decide +kernel
theorem dX3_movedCount_28 : decode cX3_movedCount 28 = .ok (.getfield 14, 3) := by decide +kernel
theorem dX3_movedCount_31 : decode cX3_movedCount 31 = .ok (.iload_n 3, 1) := by decide +kernel
theorem dX3_movedCount_32 : decode cX3_movedCount 32 = .ok (.invokevirtual 70, 3) := by decide +kernel
theorem dX3_movedCount_35 : decode cX3_movedCount 35 = .ok (.if_icmp .eq 6, 3) := by decide +kernel
theorem dX3_movedCount_38 : decode cX3_movedCount 38 = .ok (.iinc 2 1, 3) := by decide +kernel
theorem dX3_movedCount_41 : decode cX3_movedCount 41 = .ok (.iinc 3 1, 3) := by decide +kernel
theorem dX3_movedCount_44 : decode cX3_movedCount 44 = .ok (.goto (-40), 3) := by decide +kernel
theorem dX3_movedCount_47 : decode cX3_movedCount 47 = .ok (.iload_n 2, 1) := by decide +kernel
theorem dX3_movedCount_48 : decode cX3_movedCount 48 = .ok (.ireturn, 1) := by decide +kernel
theorem dX3_orNone_0 : decode cX3_orNone 0 = .ok (.iload_n 1, 1) := by decide +kernel
theorem dX3_orNone_1 : decode cX3_orNone 1 = .ok (.ifCond .lt 15, 3) := by decide +kernel
theorem dX3_orNone_4 : decode cX3_orNone 4 = .ok (.iload_n 1, 1) := by decide +kernel
theorem dX3_orNone_5 : decode cX3_orNone 5 = .ok (.aload_n 0, 1) := by decide +kernel
theorem dX3_orNone_6 : decode cX3_orNone 6 = .ok (.getfield 27, 3) := by decide +kernel
theorem dX3_orNone_9 : decode cX3_orNone 9 = .ok (.if_icmp .ge 7, 3) := by decide +kernel
theorem dX3_orNone_12 : decode cX3_orNone 12 = .ok (.iload_n 1, 1) := by decide +kernel
theorem dX3_orNone_13 : decode cX3_orNone 13 = .ok (.goto 4, 3) := by decide +kernel
theorem dX3_orNone_16 : decode cX3_orNone 16 = .ok (.iconst (-1), 1) := by decide +kernel
theorem dX3_orNone_17 : decode cX3_orNone 17 = .ok (.ireturn, 1) := by decide +kernel
theorem dX3_dayByRule_0 : decode cX3_dayByRule 0 = .ok (.aload_n 1, 1) := by decide +kernel
theorem dX3_dayByRule_1 : decode cX3_dayByRule 1 = .ok (.getfield 73, 3) := by decide +kernel
theorem dX3_dayByRule_4 : decode cX3_dayByRule 4 = .ok (.iload_n 2, 1) := by decide +kernel
theorem dX3_dayByRule_5 : decode cX3_dayByRule 5 = .ok (.invokevirtual 70, 3) := by decide +kernel
theorem dX3_dayByRule_8 : decode cX3_dayByRule 8 = .ok (.istore_n 3, 1) := by decide +kernel
theorem dX3_dayByRule_9 : decode cX3_dayByRule 9 = .ok (.aload_n 1, 1) := by decide +kernel
theorem dX3_dayByRule_10 : decode cX3_dayByRule 10 = .ok (.getfield 75, 3) := by decide +kernel
theorem dX3_dayByRule_13 : decode cX3_dayByRule 13 = .ok (.iload_n 2, 1) := by decide +kernel
theorem dX3_dayByRule_14 : decode cX3_dayByRule 14 = .ok (.invokevirtual 70, 3) := by decide +kernel
theorem dX3_dayByRule_17 : decode cX3_dayByRule 17 = .ok (.istore 4, 2) := by decide +kernel
theorem dX3_dayByRule_19 : decode cX3_dayByRule 19 = .ok (.aload_n 1, 1) := by decide +kernel
theorem dX3_dayByRule_20 : decode cX3_dayByRule 20 = .ok (.getfield 78, 3) := by decide +kernel
theorem dX3_dayByRule_23 : decode cX3_dayByRule 23 = .ok (.iload_n 2, 1) := by decide +kernel
theorem dX3_dayByRule_24 : decode cX3_dayByRule 24 = .ok (.invokevirtual 70, 3) := by decide +kernel
theorem dX3_dayByRule_27 : decode cX3_dayByRule 27 = .ok (.tableswitch 43 0 2 #[25, 27, 35], 25) := by decide +kernel
theorem dX3_dayByRule_52 : decode cX3_dayByRule 52 = .ok (.iload_n 3, 1) := by decide +kernel
theorem dX3_dayByRule_53 : decode cX3_dayByRule 53 = .ok (.ireturn, 1) := by decide +kernel
theorem dX3_dayByRule_54 : decode cX3_dayByRule 54 = .ok (.aload_n 0, 1) := by decide +kernel
theorem dX3_dayByRule_55 : decode cX3_dayByRule 55 = .ok (.iload_n 3, 1) := by decide +kernel
theorem dX3_dayByRule_56 : decode cX3_dayByRule 56 = .ok (.iload 4, 2) := by decide +kernel
theorem dX3_dayByRule_58 : decode cX3_dayByRule 58 = .ok (.invokevirtual 81, 3) := by decide +kernel
theorem dX3_dayByRule_61 : decode cX3_dayByRule 61 = .ok (.ireturn, 1) := by decide +kernel
theorem dX3_dayByRule_62 : decode cX3_dayByRule 62 = .ok (.aload_n 0, 1) := by decide +kernel
theorem dX3_dayByRule_63 : decode cX3_dayByRule 63 = .ok (.iload_n 3, 1) := by decide +kernel
theorem dX3_dayByRule_64 : decode cX3_dayByRule 64 = .ok (.iload 4, 2) := by decide +kernel
theorem dX3_dayByRule_66 : decode cX3_dayByRule 66 = .ok (.invokevirtual 85, 3) := by decide +kernel
theorem dX3_dayByRule_69 : decode cX3_dayByRule 69 = .ok (.ireturn, 1) := by decide +kernel
theorem dX3_dayByRule_70 : decode cX3_dayByRule 70 = .ok (.aload_n 0, 1) := by decide +kernel
theorem dX3_dayByRule_71 : decode cX3_dayByRule 71 = .ok (.getfield 14, 3) := by decide +kernel
theorem dX3_dayByRule_74 : decode cX3_dayByRule 74 = .ok (.iload 4, 2) := by decide +kernel
theorem dX3_dayByRule_76 : decode cX3_dayByRule 76 = .ok (.invokevirtual 70, 3) := by decide +kernel
theorem dX3_dayByRule_79 : decode cX3_dayByRule 79 = .ok (.iconst (-1), 1) := by decide +kernel
theorem dX3_dayByRule_80 : decode cX3_dayByRule 80 = .ok (.if_icmp .ne 7, 3) := by decide +kernel
theorem dX3_dayByRule_83 : decode cX3_dayByRule 83 = .ok (.iconst (-1), 1) := by decide +kernel
theorem dX3_dayByRule_84 : decode cX3_dayByRule 84 = .ok (.goto 14, 3) := by decide +kernel
theorem dX3_dayByRule_87 : decode cX3_dayByRule 87 = .ok (.aload_n 0, 1) := by decide +kernel
theorem dX3_dayByRule_88 : decode cX3_dayByRule 88 = .ok (.getfield 14, 3) := by decide +kernel
theorem dX3_dayByRule_91 : decode cX3_dayByRule 91 = .ok (.iload 4, 2) := by decide +kernel
theorem dX3_dayByRule_93 : decode cX3_dayByRule 93 = .ok (.invokevirtual 70, 3) := by decide +kernel
theorem dX3_dayByRule_96 : decode cX3_dayByRule 96 = .ok (.iload_n 3, 1) := by decide +kernel
theorem dX3_dayByRule_97 : decode cX3_dayByRule 97 = .ok (.iadd, 1) := by decide +kernel
theorem dX3_dayByRule_98 : decode cX3_dayByRule 98 = .ok (.ireturn, 1) := by decide +kernel
theorem dX3_weekdayFrom_0 : decode cX3_weekdayFrom 0 = .ok (.aload_n 0, 1) := by decide +kernel
theorem dX3_weekdayFrom_1 : decode cX3_weekdayFrom 1 = .ok (.getfield 34, 3) := by decide +kernel
theorem dX3_weekdayFrom_4 : decode cX3_weekdayFrom 4 = .ok (.iload_n 1, 1) := by decide +kernel
theorem dX3_weekdayFrom_5 : decode cX3_weekdayFrom 5 = .ok (.iadd, 1) := by decide +kernel
theorem dX3_weekdayFrom_6 : decode cX3_weekdayFrom 6 = .ok (.bipush 7, 2) := by decide +kernel
theorem dX3_weekdayFrom_8 : decode cX3_weekdayFrom 8 = .ok (.irem, 1) := by decide +kernel
theorem dX3_weekdayFrom_9 : decode cX3_weekdayFrom 9 = .ok (.istore_n 3, 1) := by decide +kernel
theorem dX3_weekdayFrom_10 : decode cX3_weekdayFrom 10 = .ok (.iload_n 1, 1) := by decide +kernel
theorem dX3_weekdayFrom_11 : decode cX3_weekdayFrom 11 = .ok (.iload_n 2, 1) := by decide +kernel
theorem dX3_weekdayFrom_12 : decode cX3_weekdayFrom 12 = .ok (.bipush 7, 2) := by decide +kernel
theorem dX3_weekdayFrom_14 : decode cX3_weekdayFrom 14 = .ok (.iadd, 1) := by decide +kernel
theorem dX3_weekdayFrom_15 : decode cX3_weekdayFrom 15 = .ok (.iload_n 3, 1) := by decide +kernel
theorem dX3_weekdayFrom_16 : decode cX3_weekdayFrom 16 = .ok (.isub, 1) := by decide +kernel
theorem dX3_weekdayFrom_17 : decode cX3_weekdayFrom 17 = .ok (.bipush 7, 2) := by decide +kernel
theorem dX3_weekdayFrom_19 : decode cX3_weekdayFrom 19 = .ok (.irem, 1) := by decide +kernel
theorem dX3_weekdayFrom_20 : decode cX3_weekdayFrom 20 = .ok (.iadd, 1) := by decide +kernel
theorem dX3_weekdayFrom_21 : decode cX3_weekdayFrom 21 = .ok (.ireturn, 1) := by decide +kernel
theorem dX3_weekdayPastMoon_0 : decode cX3_weekdayPastMoon 0 = .ok (.iload_n 1, 1) := by decide +kernel
theorem dX3_weekdayPastMoon_1 : decode cX3_weekdayPastMoon 1 = .ok (.istore_n 3, 1) := by decide +kernel
theorem dX3_weekdayPastMoon_2 : decode cX3_weekdayPastMoon 2 = .ok (.iload_n 3, 1) := by decide +kernel
theorem dX3_weekdayPastMoon_3 : decode cX3_weekdayPastMoon 3 = .ok (.aload_n 0, 1) := by decide +kernel
theorem dX3_weekdayPastMoon_4 : decode cX3_weekdayPastMoon 4 = .ok (.getfield 27, 3) := by decide +kernel
theorem dX3_weekdayPastMoon_7 : decode cX3_weekdayPastMoon 7 = .ok (.if_icmp .ge 31, 3) := by decide +kernel
theorem dX3_weekdayPastMoon_10 : decode cX3_weekdayPastMoon 10 = .ok (.aload_n 0, 1) := by decide +kernel
theorem dX3_weekdayPastMoon_11 : decode cX3_weekdayPastMoon 11 = .ok (.getfield 46, 3) := by decide +kernel
theorem dX3_weekdayPastMoon_14 : decode cX3_weekdayPastMoon 14 = .ok (.iload_n 3, 1) := by decide +kernel
theorem dX3_weekdayPastMoon_15 : decode cX3_weekdayPastMoon 15 = .ok (.invokestatic 88, 3) := by decide +kernel
theorem dX3_weekdayPastMoon_18 : decode cX3_weekdayPastMoon 18 = .ok (.bipush 14, 2) := by decide +kernel
theorem dX3_weekdayPastMoon_20 : decode cX3_weekdayPastMoon 20 = .ok (.if_icmp .ne 12, 3) := by decide +kernel
theorem dX3_weekdayPastMoon_23 : decode cX3_weekdayPastMoon 23 = .ok (.aload_n 0, 1) := by decide +kernel
theorem dX3_weekdayPastMoon_24 : decode cX3_weekdayPastMoon 24 = .ok (.iload_n 3, 1) := by decide +kernel
theorem dX3_weekdayPastMoon_25 : decode cX3_weekdayPastMoon 25 = .ok (.iconst 1, 1) := by decide +kernel
theorem dX3_weekdayPastMoon_26 : decode cX3_weekdayPastMoon 26 = .ok (.iadd, 1) := by decide +kernel
theorem dX3_weekdayPastMoon_27 : decode cX3_weekdayPastMoon 27 = .ok (.iload_n 2, 1) := by decide +kernel
theorem dX3_weekdayPastMoon_28 : decode cX3_weekdayPastMoon 28 = .ok (.invokevirtual 81, 3) := by decide +kernel
theorem dX3_weekdayPastMoon_31 : decode cX3_weekdayPastMoon 31 = .ok (.ireturn, 1) := by decide +kernel
theorem dX3_weekdayPastMoon_32 : decode cX3_weekdayPastMoon 32 = .ok (.iinc 3 1, 3) := by decide +kernel
theorem dX3_weekdayPastMoon_35 : decode cX3_weekdayPastMoon 35 = .ok (.goto (-33), 3) := by decide +kernel
theorem dX3_weekdayPastMoon_38 : decode cX3_weekdayPastMoon 38 = .ok (.iconst (-1), 1) := by decide +kernel
theorem dX3_weekdayPastMoon_39 : decode cX3_weekdayPastMoon 39 = .ok (.ireturn, 1) := by decide +kernel
theorem dX3_cutNotches_0 : decode cX3_cutNotches 0 = .ok (.iconst 0, 1) := by decide +kernel
theorem dX3_cutNotches_1 : decode cX3_cutNotches 1 = .ok (.istore_n 3, 1) := by decide +kernel
theorem dX3_cutNotches_2 : decode cX3_cutNotches 2 = .ok (.iload_n 3, 1) := by decide +kernel
theorem dX3_cutNotches_3 : decode cX3_cutNotches 3 = .ok (.aload_n 1, 1) := by decide +kernel
theorem dX3_cutNotches_4 : decode cX3_cutNotches 4 = .ok (.getfield 49, 3) := by decide +kernel
theorem dX3_cutNotches_7 : decode cX3_cutNotches 7 = .ok (.if_icmp .ge 85, 3) := by decide +kernel
theorem dX3_cutNotches_10 : decode cX3_cutNotches 10 = .ok (.aload_n 0, 1) := by decide +kernel
theorem dX3_cutNotches_11 : decode cX3_cutNotches 11 = .ok (.getfield 14, 3) := by decide +kernel
theorem dX3_cutNotches_14 : decode cX3_cutNotches 14 = .ok (.iload_n 3, 1) := by decide +kernel
theorem dX3_cutNotches_15 : decode cX3_cutNotches 15 = .ok (.invokevirtual 70, 3) := by decide +kernel
theorem dX3_cutNotches_18 : decode cX3_cutNotches 18 = .ok (.istore 4, 2) := by decide +kernel
theorem dX3_cutNotches_20 : decode cX3_cutNotches 20 = .ok (.iload 4, 2) := by decide +kernel
theorem dX3_cutNotches_22 : decode cX3_cutNotches 22 = .ok (.iconst (-1), 1) := by decide +kernel
theorem dX3_cutNotches_23 : decode cX3_cutNotches 23 = .ok (.if_icmp .eq 63, 3) := by decide +kernel
theorem dX3_cutNotches_26 : decode cX3_cutNotches 26 = .ok (.aload_n 1, 1) := by decide +kernel
theorem dX3_cutNotches_27 : decode cX3_cutNotches 27 = .ok (.getfield 91, 3) := by decide +kernel
theorem dX3_cutNotches_30 : decode cX3_cutNotches 30 = .ok (.iload_n 3, 1) := by decide +kernel
theorem dX3_cutNotches_31 : decode cX3_cutNotches 31 = .ok (.invokevirtual 70, 3) := by decide +kernel
theorem dX3_cutNotches_34 : decode cX3_cutNotches 34 = .ok (.iload_n 2, 1) := by decide +kernel
theorem dX3_cutNotches_35 : decode cX3_cutNotches 35 = .ok (.if_icmp .ne 51, 3) := by decide +kernel
theorem dX3_cutNotches_38 : decode cX3_cutNotches 38 = .ok (.iconst 0, 1) := by decide +kernel
theorem dX3_cutNotches_39 : decode cX3_cutNotches 39 = .ok (.istore 5, 2) := by decide +kernel
theorem dX3_cutNotches_41 : decode cX3_cutNotches 41 = .ok (.iload 5, 2) := by decide +kernel
theorem dX3_cutNotches_43 : decode cX3_cutNotches 43 = .ok (.aload_n 1, 1) := by decide +kernel
theorem dX3_cutNotches_44 : decode cX3_cutNotches 44 = .ok (.getfield 49, 3) := by decide +kernel
theorem dX3_cutNotches_47 : decode cX3_cutNotches 47 = .ok (.if_icmp .ge 25, 3) := by decide +kernel
theorem dX3_cutNotches_50 : decode cX3_cutNotches 50 = .ok (.aload_n 0, 1) := by decide +kernel
theorem dX3_cutNotches_51 : decode cX3_cutNotches 51 = .ok (.iload 4, 2) := by decide +kernel
theorem dX3_cutNotches_53 : decode cX3_cutNotches 53 = .ok (.aload_n 1, 1) := by decide +kernel
theorem dX3_cutNotches_54 : decode cX3_cutNotches 54 = .ok (.getfield 49, 3) := by decide +kernel
theorem dX3_cutNotches_57 : decode cX3_cutNotches 57 = .ok (.invokevirtual 94, 3) := by decide +kernel
theorem dX3_cutNotches_60 : decode cX3_cutNotches 60 = .ok (.ifCond .eq 12, 3) := by decide +kernel
theorem dX3_cutNotches_63 : decode cX3_cutNotches 63 = .ok (.iinc 4 1, 3) := by decide +kernel
theorem dX3_cutNotches_66 : decode cX3_cutNotches 66 = .ok (.iinc 5 1, 3) := by decide +kernel
theorem dX3_cutNotches_69 : decode cX3_cutNotches 69 = .ok (.goto (-28), 3) := by decide +kernel
theorem dX3_cutNotches_72 : decode cX3_cutNotches 72 = .ok (.aload_n 0, 1) := by decide +kernel
theorem dX3_cutNotches_73 : decode cX3_cutNotches 73 = .ok (.getfield 20, 3) := by decide +kernel
theorem dX3_cutNotches_76 : decode cX3_cutNotches 76 = .ok (.iload_n 3, 1) := by decide +kernel
theorem dX3_cutNotches_77 : decode cX3_cutNotches 77 = .ok (.aload_n 0, 1) := by decide +kernel
theorem dX3_cutNotches_78 : decode cX3_cutNotches 78 = .ok (.iload 4, 2) := by decide +kernel
theorem dX3_cutNotches_80 : decode cX3_cutNotches 80 = .ok (.invokevirtual 56, 3) := by decide +kernel
theorem dX3_cutNotches_83 : decode cX3_cutNotches 83 = .ok (.invokevirtual 59, 3) := by decide +kernel
theorem dX3_cutNotches_86 : decode cX3_cutNotches 86 = .ok (.iinc 3 1, 3) := by decide +kernel
theorem dX3_cutNotches_89 : decode cX3_cutNotches 89 = .ok (.goto (-87), 3) := by decide +kernel
theorem dX3_cutNotches_92 : decode cX3_cutNotches 92 = .ok (.return_, 1) := by decide +kernel
theorem dX3_hasNotch_0 : decode cX3_hasNotch 0 = .ok (.iconst 0, 1) := by decide +kernel
theorem dX3_hasNotch_1 : decode cX3_hasNotch 1 = .ok (.istore_n 3, 1) := by decide +kernel
theorem dX3_hasNotch_2 : decode cX3_hasNotch 2 = .ok (.iload_n 3, 1) := by decide +kernel
theorem dX3_hasNotch_3 : decode cX3_hasNotch 3 = .ok (.iload_n 2, 1) := by decide +kernel
theorem dX3_hasNotch_4 : decode cX3_hasNotch 4 = .ok (.if_icmp .ge 23, 3) := by decide +kernel
theorem dX3_hasNotch_7 : decode cX3_hasNotch 7 = .ok (.aload_n 0, 1) := by decide +kernel
theorem dX3_hasNotch_8 : decode cX3_hasNotch 8 = .ok (.getfield 20, 3) := by decide +kernel
theorem dX3_hasNotch_11 : decode cX3_hasNotch 11 = .ok (.iload_n 3, 1) := by decide +kernel
theorem dX3_hasNotch_12 : decode cX3_hasNotch 12 = .ok (.invokevirtual 70, 3) := by decide +kernel
theorem dX3_hasNotch_15 : decode cX3_hasNotch 15 = .ok (.iload_n 1, 1) := by decide +kernel
theorem dX3_hasNotch_16 : decode cX3_hasNotch 16 = .ok (.if_icmp .ne 5, 3) := by decide +kernel
theorem dX3_hasNotch_19 : decode cX3_hasNotch 19 = .ok (.iconst 1, 1) := by decide +kernel
theorem dX3_hasNotch_20 : decode cX3_hasNotch 20 = .ok (.ireturn, 1) := by decide +kernel
theorem dX3_hasNotch_21 : decode cX3_hasNotch 21 = .ok (.iinc 3 1, 3) := by decide +kernel
theorem dX3_hasNotch_24 : decode cX3_hasNotch 24 = .ok (.goto (-22), 3) := by decide +kernel
theorem dX3_hasNotch_27 : decode cX3_hasNotch 27 = .ok (.iconst 0, 1) := by decide +kernel
theorem dX3_hasNotch_28 : decode cX3_hasNotch 28 = .ok (.ireturn, 1) := by decide +kernel
theorem dX4_init_0 : decode cX4_init 0 = .ok (.aload_n 0, 1) := by decide +kernel
theorem dX4_init_1 : decode cX4_init 1 = .ok (.invokespecial 3, 3) := by decide +kernel
theorem dX4_init_4 : decode cX4_init 4 = .ok (.aload_n 0, 1) := by decide +kernel
theorem dX4_init_5 : decode cX4_init 5 = .ok (.iload_n 1, 1) := by decide +kernel
theorem dX4_init_6 : decode cX4_init 6 = .ok (.ifCond .le 7, 3) := by decide +kernel
theorem dX4_init_9 : decode cX4_init 9 = .ok (.iload_n 1, 1) := by decide +kernel
theorem dX4_init_10 : decode cX4_init 10 = .ok (.goto 4, 3) := by decide +kernel
theorem dX4_init_13 : decode cX4_init 13 = .ok (.iconst 0, 1) := by decide +kernel
theorem dX4_init_14 : decode cX4_init 14 = .ok (.newarray .int, 2) := by decide +kernel
theorem dX4_init_16 : decode cX4_init 16 = .ok (.putfield 9, 3) := by decide +kernel
theorem dX4_init_19 : decode cX4_init 19 = .ok (.return_, 1) := by decide +kernel
theorem dX4_at_0 : decode cX4_at 0 = .ok (.iload_n 1, 1) := by decide +kernel
theorem dX4_at_1 : decode cX4_at 1 = .ok (.ifCond .lt 21, 3) := by decide +kernel
theorem dX4_at_4 : decode cX4_at 4 = .ok (.iload_n 1, 1) := by decide +kernel
theorem dX4_at_5 : decode cX4_at 5 = .ok (.aload_n 0, 1) := by decide +kernel
theorem dX4_at_6 : decode cX4_at 6 = .ok (.getfield 9, 3) := by decide +kernel
theorem dX4_at_9 : decode cX4_at 9 = .ok (.arraylength, 1) := by decide +kernel
theorem dX4_at_10 : decode cX4_at 10 = .ok (.if_icmp .ge 12, 3) := by decide +kernel
theorem dX4_at_13 : decode cX4_at 13 = .ok (.aload_n 0, 1) := by decide +kernel
theorem dX4_at_14 : decode cX4_at 14 = .ok (.getfield 9, 3) := by decide +kernel
theorem dX4_at_17 : decode cX4_at 17 = .ok (.iload_n 1, 1) := by decide +kernel
theorem dX4_at_18 : decode cX4_at 18 = .ok (.iaload, 1) := by decide +kernel
theorem dX4_at_19 : decode cX4_at 19 = .ok (.goto 4, 3) := by decide +kernel
theorem dX4_at_22 : decode cX4_at 22 = .ok (.iconst (-1), 1) := by decide +kernel
theorem dX4_at_23 : decode cX4_at 23 = .ok (.ireturn, 1) := by decide +kernel
theorem dX4_put_0 : decode cX4_put 0 = .ok (.iload_n 1, 1) := by decide +kernel
theorem dX4_put_1 : decode cX4_put 1 = .ok (.ifCond .lt 19, 3) := by decide +kernel
theorem dX4_put_4 : decode cX4_put 4 = .ok (.iload_n 1, 1) := by decide +kernel
theorem dX4_put_5 : decode cX4_put 5 = .ok (.aload_n 0, 1) := by decide +kernel
theorem dX4_put_6 : decode cX4_put 6 = .ok (.getfield 9, 3) := by decide +kernel
theorem dX4_put_9 : decode cX4_put 9 = .ok (.arraylength, 1) := by decide +kernel
theorem dX4_put_10 : decode cX4_put 10 = .ok (.if_icmp .ge 10, 3) := by decide +kernel
theorem dX4_put_13 : decode cX4_put 13 = .ok (.aload_n 0, 1) := by decide +kernel
theorem dX4_put_14 : decode cX4_put 14 = .ok (.getfield 9, 3) := by decide +kernel
theorem dX4_put_17 : decode cX4_put 17 = .ok (.iload_n 1, 1) := by decide +kernel
theorem dX4_put_18 : decode cX4_put 18 = .ok (.iload_n 2, 1) := by decide +kernel
theorem dX4_put_19 : decode cX4_put 19 = .ok (.iastore, 1) := by decide +kernel
theorem dX4_put_20 : decode cX4_put 20 = .ok (.return_, 1) := by decide +kernel
theorem dX4_putNowhere_0 : decode cX4_putNowhere 0 = .ok (.iconst 0, 1) := by decide +kernel
theorem dX4_putNowhere_1 : decode cX4_putNowhere 1 = .ok (.istore_n 1, 1) := by decide +kernel
theorem dX4_putNowhere_2 : decode cX4_putNowhere 2 = .ok (.iload_n 1, 1) := by decide +kernel
theorem dX4_putNowhere_3 : decode cX4_putNowhere 3 = .ok (.aload_n 0, 1) := by decide +kernel
theorem dX4_putNowhere_4 : decode cX4_putNowhere 4 = .ok (.getfield 9, 3) := by decide +kernel
theorem dX4_putNowhere_7 : decode cX4_putNowhere 7 = .ok (.arraylength, 1) := by decide +kernel
theorem dX4_putNowhere_8 : decode cX4_putNowhere 8 = .ok (.if_icmp .ge 16, 3) := by decide +kernel
theorem dX4_putNowhere_11 : decode cX4_putNowhere 11 = .ok (.aload_n 0, 1) := by decide +kernel
theorem dX4_putNowhere_12 : decode cX4_putNowhere 12 = .ok (.getfield 9, 3) := by decide +kernel
theorem dX4_putNowhere_15 : decode cX4_putNowhere 15 = .ok (.iload_n 1, 1) := by decide +kernel
theorem dX4_putNowhere_16 : decode cX4_putNowhere 16 = .ok (.iconst (-1), 1) := by decide +kernel
theorem dX4_putNowhere_17 : decode cX4_putNowhere 17 = .ok (.iastore, 1) := by decide +kernel
theorem dX4_putNowhere_18 : decode cX4_putNowhere 18 = .ok (.iinc 1 1, 3) := by decide +kernel
theorem dX4_putNowhere_21 : decode cX4_putNowhere 21 = .ok (.goto (-19), 3) := by decide +kernel
theorem dX4_putNowhere_24 : decode cX4_putNowhere 24 = .ok (.return_, 1) := by decide +kernel
theorem dX4_copyFrom_0 : decode cX4_copyFrom 0 = .ok (.iconst 0, 1) := by decide +kernel
theorem dX4_copyFrom_1 : decode cX4_copyFrom 1 = .ok (.istore_n 2, 1) := by decide +kernel
theorem dX4_copyFrom_2 : decode cX4_copyFrom 2 = .ok (.iload_n 2, 1) := by decide +kernel
theorem dX4_copyFrom_3 : decode cX4_copyFrom 3 = .ok (.aload_n 0, 1) := by decide +kernel
theorem dX4_copyFrom_4 : decode cX4_copyFrom 4 = .ok (.getfield 9, 3) := by decide +kernel
theorem dX4_copyFrom_7 : decode cX4_copyFrom 7 = .ok (.arraylength, 1) := by decide +kernel
theorem dX4_copyFrom_8 : decode cX4_copyFrom 8 = .ok (.if_icmp .ge 20, 3) := by decide +kernel
theorem dX4_copyFrom_11 : decode cX4_copyFrom 11 = .ok (.aload_n 0, 1) := by decide +kernel
theorem dX4_copyFrom_12 : decode cX4_copyFrom 12 = .ok (.getfield 9, 3) := by decide +kernel
theorem dX4_copyFrom_15 : decode cX4_copyFrom 15 = .ok (.iload_n 2, 1) := by decide +kernel
theorem dX4_copyFrom_16 : decode cX4_copyFrom 16 = .ok (.aload_n 1, 1) := by decide +kernel
theorem dX4_copyFrom_17 : decode cX4_copyFrom 17 = .ok (.iload_n 2, 1) := by decide +kernel
theorem dX4_copyFrom_18 : decode cX4_copyFrom 18 = .ok (.invokevirtual 15, 3) := by decide +kernel
theorem dX4_copyFrom_21 : decode cX4_copyFrom 21 = .ok (.iastore, 1) := by decide +kernel
theorem dX4_copyFrom_22 : decode cX4_copyFrom 22 = .ok (.iinc 2 1, 3) := by decide +kernel
theorem dX4_copyFrom_25 : decode cX4_copyFrom 25 = .ok (.goto (-23), 3) := by decide +kernel
theorem dX4_copyFrom_28 : decode cX4_copyFrom 28 = .ok (.return_, 1) := by decide +kernel
theorem dX5_init_0 : decode cX5_init 0 = .ok (.aload_n 0, 1) := by decide +kernel
theorem dX5_init_1 : decode cX5_init 1 = .ok (.invokespecial 3, 3) := by decide +kernel
theorem dX5_init_4 : decode cX5_init 4 = .ok (.aload_n 0, 1) := by decide +kernel
theorem dX5_init_5 : decode cX5_init 5 = .ok (.iconst 0, 1) := by decide +kernel
theorem dX5_init_6 : decode cX5_init 6 = .ok (.putfield 9, 3) := by decide +kernel
theorem dX5_init_9 : decode cX5_init 9 = .ok (.aload_n 0, 1) := by decide +kernel
theorem dX5_init_10 : decode cX5_init 10 = .ok (.new 15, 3) := by decide +kernel
theorem dX5_init_13 : decode cX5_init 13 = .ok (.dup, 1) := by decide +kernel
theorem dX5_init_14 : decode cX5_init 14 = .ok (.bipush 10, 2) := by decide +kernel
theorem dX5_init_16 : decode cX5_init 16 = .ok (.invokespecial 17, 3) := by decide +kernel
theorem dX5_init_19 : decode cX5_init 19 = .ok (.putfield 20, 3) := by decide +kernel
theorem dX5_init_22 : decode cX5_init 22 = .ok (.aload_n 0, 1) := by decide +kernel
theorem dX5_init_23 : decode cX5_init 23 = .ok (.new 15, 3) := by decide +kernel
theorem dX5_init_26 : decode cX5_init 26 = .ok (.dup, 1) := by decide +kernel
theorem dX5_init_27 : decode cX5_init 27 = .ok (.bipush 10, 2) := by decide +kernel
theorem dX5_init_29 : decode cX5_init 29 = .ok (.invokespecial 17, 3) := by decide +kernel
theorem dX5_init_32 : decode cX5_init 32 = .ok (.putfield 24, 3) := by decide +kernel
theorem dX5_init_35 : decode cX5_init 35 = .ok (.aload_n 0, 1) := by decide +kernel
theorem dX5_init_36 : decode cX5_init 36 = .ok (.new 15, 3) := by decide +kernel
theorem dX5_init_39 : decode cX5_init 39 = .ok (.dup, 1) := by decide +kernel
theorem dX5_init_40 : decode cX5_init 40 = .ok (.bipush 10, 2) := by decide +kernel
theorem dX5_init_42 : decode cX5_init 42 = .ok (.invokespecial 17, 3) := by decide +kernel
theorem dX5_init_45 : decode cX5_init 45 = .ok (.putfield 27, 3) := by decide +kernel
theorem dX5_init_48 : decode cX5_init 48 = .ok (.aload_n 0, 1) := by decide +kernel
theorem dX5_init_49 : decode cX5_init 49 = .ok (.new 15, 3) := by decide +kernel
theorem dX5_init_52 : decode cX5_init 52 = .ok (.dup, 1) := by decide +kernel
theorem dX5_init_53 : decode cX5_init 53 = .ok (.bipush 10, 2) := by decide +kernel
theorem dX5_init_55 : decode cX5_init 55 = .ok (.invokespecial 17, 3) := by decide +kernel
theorem dX5_init_58 : decode cX5_init 58 = .ok (.putfield 30, 3) := by decide +kernel
theorem dX5_init_61 : decode cX5_init 61 = .ok (.aload_n 0, 1) := by decide +kernel
theorem dX5_init_62 : decode cX5_init 62 = .ok (.new 15, 3) := by decide +kernel
theorem dX5_init_65 : decode cX5_init 65 = .ok (.dup, 1) := by decide +kernel
theorem dX5_init_66 : decode cX5_init 66 = .ok (.iconst 3, 1) := by decide +kernel
theorem dX5_init_67 : decode cX5_init 67 = .ok (.invokespecial 17, 3) := by decide +kernel
theorem dX5_init_70 : decode cX5_init 70 = .ok (.putfield 33, 3) := by decide +kernel
theorem dX5_init_73 : decode cX5_init 73 = .ok (.aload_n 0, 1) := by decide +kernel
theorem dX5_init_74 : decode cX5_init 74 = .ok (.sipush 300, 3) := by decide +kernel
theorem dX5_init_77 : decode cX5_init 77 = .ok (.putfield 36, 3) := by decide +kernel
theorem dX5_init_80 : decode cX5_init 80 = .ok (.aload_n 0, 1) := by decide +kernel
theorem dX5_init_81 : decode cX5_init 81 = .ok (.iconst 0, 1) := by decide +kernel
theorem dX5_init_82 : decode cX5_init 82 = .ok (.putfield 39, 3) := by decide +kernel
theorem dX5_init_85 : decode cX5_init 85 = .ok (.aload_n 0, 1) := by decide +kernel
theorem dX5_init_86 : decode cX5_init 86 = .ok (.new 15, 3) := by decide +kernel
theorem dX5_init_89 : decode cX5_init 89 = .ok (.dup, 1) := by decide +kernel
theorem dX5_init_90 : decode cX5_init 90 = .ok (.iconst 5, 1) := by decide +kernel
theorem dX5_init_91 : decode cX5_init 91 = .ok (.invokespecial 17, 3) := by decide +kernel
theorem dX5_init_94 : decode cX5_init 94 = .ok (.putfield 42, 3) := by decide +kernel
theorem dX5_init_97 : decode cX5_init 97 = .ok (.aload_n 0, 1) := by decide +kernel
theorem dX5_init_98 : decode cX5_init 98 = .ok (.new 15, 3) := by decide +kernel
theorem dX5_init_101 : decode cX5_init 101 = .ok (.dup, 1) := by decide +kernel
theorem dX5_init_102 : decode cX5_init 102 = .ok (.iconst 5, 1) := by decide +kernel
theorem dX5_init_103 : decode cX5_init 103 = .ok (.invokespecial 17, 3) := by decide +kernel
theorem dX5_init_106 : decode cX5_init 106 = .ok (.putfield 45, 3) := by decide +kernel
theorem dX5_init_109 : decode cX5_init 109 = .ok (.aload_n 0, 1) := by decide +kernel
theorem dX5_init_110 : decode cX5_init 110 = .ok (.new 15, 3) := by decide +kernel
theorem dX5_init_113 : decode cX5_init 113 = .ok (.dup, 1) := by decide +kernel
theorem dX5_init_114 : decode cX5_init 114 = .ok (.iconst 5, 1) := by decide +kernel
theorem dX5_init_115 : decode cX5_init 115 = .ok (.invokespecial 17, 3) := by decide +kernel
theorem dX5_init_118 : decode cX5_init 118 = .ok (.putfield 48, 3) := by decide +kernel
theorem dX5_init_121 : decode cX5_init 121 = .ok (.aload_n 0, 1) := by decide +kernel
theorem dX5_init_122 : decode cX5_init 122 = .ok (.new 15, 3) := by decide +kernel
theorem dX5_init_125 : decode cX5_init 125 = .ok (.dup, 1) := by decide +kernel
theorem dX5_init_126 : decode cX5_init 126 = .ok (.bipush 50, 2) := by decide +kernel
theorem dX5_init_128 : decode cX5_init 128 = .ok (.invokespecial 17, 3) := by decide +kernel
theorem dX5_init_131 : decode cX5_init 131 = .ok (.putfield 51, 3) := by decide +kernel
theorem dX5_init_134 : decode cX5_init 134 = .ok (.return_, 1) := by decide +kernel
theorem dX5_copyFrom_0 : decode cX5_copyFrom 0 = .ok (.aload_n 0, 1) := by decide +kernel
theorem dX5_copyFrom_1 : decode cX5_copyFrom 1 = .ok (.aload_n 1, 1) := by decide +kernel
theorem dX5_copyFrom_2 : decode cX5_copyFrom 2 = .ok (.getfield 9, 3) := by decide +kernel
theorem dX5_copyFrom_5 : decode cX5_copyFrom 5 = .ok (.putfield 9, 3) := by decide +kernel
theorem dX5_copyFrom_8 : decode cX5_copyFrom 8 = .ok (.aload_n 0, 1) := by decide +kernel
theorem dX5_copyFrom_9 : decode cX5_copyFrom 9 = .ok (.getfield 20, 3) := by decide +kernel
theorem dX5_copyFrom_12 : decode cX5_copyFrom 12 = .ok (.aload_n 1, 1) := by decide +kernel
theorem dX5_copyFrom_13 : decode cX5_copyFrom 13 = .ok (.getfield 20, 3) := by decide +kernel
theorem dX5_copyFrom_16 : decode cX5_copyFrom 16 = .ok (.invokevirtual 54, 3) := by decide +kernel
theorem dX5_copyFrom_19 : decode cX5_copyFrom 19 = .ok (.aload_n 0, 1) := by decide +kernel
theorem dX5_copyFrom_20 : decode cX5_copyFrom 20 = .ok (.getfield 24, 3) := by decide +kernel
theorem dX5_copyFrom_23 : decode cX5_copyFrom 23 = .ok (.aload_n 1, 1) := by decide +kernel
theorem dX5_copyFrom_24 : decode cX5_copyFrom 24 = .ok (.getfield 24, 3) := by decide +kernel
theorem dX5_copyFrom_27 : decode cX5_copyFrom 27 = .ok (.invokevirtual 54, 3) := by decide +kernel
theorem dX5_copyFrom_30 : decode cX5_copyFrom 30 = .ok (.aload_n 0, 1) := by decide +kernel
theorem dX5_copyFrom_31 : decode cX5_copyFrom 31 = .ok (.getfield 27, 3) := by decide +kernel
theorem dX5_copyFrom_34 : decode cX5_copyFrom 34 = .ok (.aload_n 1, 1) := by decide +kernel
theorem dX5_copyFrom_35 : decode cX5_copyFrom 35 = .ok (.getfield 27, 3) := by decide +kernel
theorem dX5_copyFrom_38 : decode cX5_copyFrom 38 = .ok (.invokevirtual 54, 3) := by decide +kernel
theorem dX5_copyFrom_41 : decode cX5_copyFrom 41 = .ok (.aload_n 0, 1) := by decide +kernel
theorem dX5_copyFrom_42 : decode cX5_copyFrom 42 = .ok (.getfield 30, 3) := by decide +kernel
theorem dX5_copyFrom_45 : decode cX5_copyFrom 45 = .ok (.aload_n 1, 1) := by decide +kernel
theorem dX5_copyFrom_46 : decode cX5_copyFrom 46 = .ok (.getfield 30, 3) := by decide +kernel
theorem dX5_copyFrom_49 : decode cX5_copyFrom 49 = .ok (.invokevirtual 54, 3) := by decide +kernel
theorem dX5_copyFrom_52 : decode cX5_copyFrom 52 = .ok (.aload_n 0, 1) := by decide +kernel
theorem dX5_copyFrom_53 : decode cX5_copyFrom 53 = .ok (.getfield 33, 3) := by decide +kernel
theorem dX5_copyFrom_56 : decode cX5_copyFrom 56 = .ok (.aload_n 1, 1) := by decide +kernel
theorem dX5_copyFrom_57 : decode cX5_copyFrom 57 = .ok (.getfield 33, 3) := by decide +kernel
theorem dX5_copyFrom_60 : decode cX5_copyFrom 60 = .ok (.invokevirtual 54, 3) := by decide +kernel
theorem dX5_copyFrom_63 : decode cX5_copyFrom 63 = .ok (.aload_n 0, 1) := by decide +kernel
theorem dX5_copyFrom_64 : decode cX5_copyFrom 64 = .ok (.aload_n 1, 1) := by decide +kernel
theorem dX5_copyFrom_65 : decode cX5_copyFrom 65 = .ok (.getfield 36, 3) := by decide +kernel
theorem dX5_copyFrom_68 : decode cX5_copyFrom 68 = .ok (.putfield 36, 3) := by decide +kernel
theorem dX5_copyFrom_71 : decode cX5_copyFrom 71 = .ok (.aload_n 0, 1) := by decide +kernel
theorem dX5_copyFrom_72 : decode cX5_copyFrom 72 = .ok (.aload_n 1, 1) := by decide +kernel
theorem dX5_copyFrom_73 : decode cX5_copyFrom 73 = .ok (.getfield 39, 3) := by decide +kernel
theorem dX5_copyFrom_76 : decode cX5_copyFrom 76 = .ok (.putfield 39, 3) := by decide +kernel
theorem dX5_copyFrom_79 : decode cX5_copyFrom 79 = .ok (.aload_n 0, 1) := by decide +kernel
theorem dX5_copyFrom_80 : decode cX5_copyFrom 80 = .ok (.getfield 42, 3) := by decide +kernel
theorem dX5_copyFrom_83 : decode cX5_copyFrom 83 = .ok (.aload_n 1, 1) := by decide +kernel
theorem dX5_copyFrom_84 : decode cX5_copyFrom 84 = .ok (.getfield 42, 3) := by decide +kernel
theorem dX5_copyFrom_87 : decode cX5_copyFrom 87 = .ok (.invokevirtual 54, 3) := by decide +kernel
theorem dX5_copyFrom_90 : decode cX5_copyFrom 90 = .ok (.aload_n 0, 1) := by decide +kernel
theorem dX5_copyFrom_91 : decode cX5_copyFrom 91 = .ok (.getfield 45, 3) := by decide +kernel
theorem dX5_copyFrom_94 : decode cX5_copyFrom 94 = .ok (.aload_n 1, 1) := by decide +kernel
theorem dX5_copyFrom_95 : decode cX5_copyFrom 95 = .ok (.getfield 45, 3) := by decide +kernel
theorem dX5_copyFrom_98 : decode cX5_copyFrom 98 = .ok (.invokevirtual 54, 3) := by decide +kernel
theorem dX5_copyFrom_101 : decode cX5_copyFrom 101 = .ok (.aload_n 0, 1) := by decide +kernel
theorem dX5_copyFrom_102 : decode cX5_copyFrom 102 = .ok (.getfield 48, 3) := by decide +kernel
theorem dX5_copyFrom_105 : decode cX5_copyFrom 105 = .ok (.aload_n 1, 1) := by decide +kernel
theorem dX5_copyFrom_106 : decode cX5_copyFrom 106 = .ok (.getfield 48, 3) := by decide +kernel
theorem dX5_copyFrom_109 : decode cX5_copyFrom 109 = .ok (.invokevirtual 54, 3) := by decide +kernel
theorem dX5_copyFrom_112 : decode cX5_copyFrom 112 = .ok (.aload_n 0, 1) := by decide +kernel
theorem dX5_copyFrom_113 : decode cX5_copyFrom 113 = .ok (.getfield 51, 3) := by decide +kernel
theorem dX5_copyFrom_116 : decode cX5_copyFrom 116 = .ok (.aload_n 1, 1) := by decide +kernel
theorem dX5_copyFrom_117 : decode cX5_copyFrom 117 = .ok (.getfield 51, 3) := by decide +kernel
theorem dX5_copyFrom_120 : decode cX5_copyFrom 120 = .ok (.invokevirtual 54, 3) := by decide +kernel
theorem dX5_copyFrom_123 : decode cX5_copyFrom 123 = .ok (.return_, 1) := by decide +kernel
theorem dX5_addFeast_0 : decode cX5_addFeast 0 = .ok (.aload_n 0, 1) := by decide +kernel
theorem dX5_addFeast_1 : decode cX5_addFeast 1 = .ok (.getfield 20, 3) := by decide +kernel
theorem dX5_addFeast_4 : decode cX5_addFeast 4 = .ok (.aload_n 0, 1) := by decide +kernel
theorem dX5_addFeast_5 : decode cX5_addFeast 5 = .ok (.getfield 9, 3) := by decide +kernel
theorem dX5_addFeast_8 : decode cX5_addFeast 8 = .ok (.aload_n 1, 1) := by decide +kernel
theorem dX5_addFeast_9 : decode cX5_addFeast 9 = .ok (.getfield 58, 3) := by decide +kernel
theorem dX5_addFeast_12 : decode cX5_addFeast 12 = .ok (.invokevirtual 63, 3) := by decide +kernel
theorem dX5_addFeast_15 : decode cX5_addFeast 15 = .ok (.aload_n 0, 1) := by decide +kernel
theorem dX5_addFeast_16 : decode cX5_addFeast 16 = .ok (.getfield 24, 3) := by decide +kernel
theorem dX5_addFeast_19 : decode cX5_addFeast 19 = .ok (.aload_n 0, 1) := by decide +kernel
theorem dX5_addFeast_20 : decode cX5_addFeast 20 = .ok (.getfield 9, 3) := by decide +kernel
theorem dX5_addFeast_23 : decode cX5_addFeast 23 = .ok (.aload_n 1, 1) := by decide +kernel
theorem dX5_addFeast_24 : decode cX5_addFeast 24 = .ok (.getfield 67, 3) := by decide +kernel
theorem dX5_addFeast_27 : decode cX5_addFeast 27 = .ok (.invokevirtual 63, 3) := by decide +kernel
theorem dX5_addFeast_30 : decode cX5_addFeast 30 = .ok (.aload_n 0, 1) := by decide +kernel
theorem dX5_addFeast_31 : decode cX5_addFeast 31 = .ok (.getfield 27, 3) := by decide +kernel
theorem dX5_addFeast_34 : decode cX5_addFeast 34 = .ok (.aload_n 0, 1) := by decide +kernel
theorem dX5_addFeast_35 : decode cX5_addFeast 35 = .ok (.getfield 9, 3) := by decide +kernel
theorem dX5_addFeast_38 : decode cX5_addFeast 38 = .ok (.aload_n 1, 1) := by decide +kernel
theorem dX5_addFeast_39 : decode cX5_addFeast 39 = .ok (.getfield 70, 3) := by decide +kernel
theorem dX5_addFeast_42 : decode cX5_addFeast 42 = .ok (.ifCond .eq 11, 3) := by decide +kernel
theorem dX5_addFeast_45 : decode cX5_addFeast 45 = .ok (.aload_n 1, 1) := by decide +kernel
theorem dX5_addFeast_46 : decode cX5_addFeast 46 = .ok (.getfield 74, 3) := by decide +kernel
theorem dX5_addFeast_49 : decode cX5_addFeast 49 = .ok (.ineg, 1) := by decide +kernel
theorem dX5_addFeast_50 : decode cX5_addFeast 50 = .ok (.goto 7, 3) := by decide +kernel
theorem dX5_addFeast_53 : decode cX5_addFeast 53 = .ok (.aload_n 1, 1) := by decide +kernel
theorem dX5_addFeast_54 : decode cX5_addFeast 54 = .ok (.getfield 74, 3) := by decide +kernel
theorem dX5_addFeast_57 : decode cX5_addFeast 57 = .ok (.invokevirtual 63, 3) := by decide +kernel
theorem dX5_addFeast_60 : decode cX5_addFeast 60 = .ok (.aload_n 0, 1) := by decide +kernel
theorem dX5_addFeast_61 : decode cX5_addFeast 61 = .ok (.getfield 30, 3) := by decide +kernel
theorem dX5_addFeast_64 : decode cX5_addFeast 64 = .ok (.aload_n 0, 1) := by decide +kernel
theorem dX5_addFeast_65 : decode cX5_addFeast 65 = .ok (.getfield 9, 3) := by decide +kernel
theorem dX5_addFeast_68 : decode cX5_addFeast 68 = .ok (.aload_n 1, 1) := by decide +kernel
theorem dX5_addFeast_69 : decode cX5_addFeast 69 = .ok (.getfield 77, 3) := by decide +kernel
theorem dX5_addFeast_72 : decode cX5_addFeast 72 = .ok (.invokevirtual 63, 3) := by decide +kernel
theorem dX5_addFeast_75 : decode cX5_addFeast 75 = .ok (.aload_n 0, 1) := by decide +kernel
theorem dX5_addFeast_76 : decode cX5_addFeast 76 = .ok (.dup, 1) := by decide +kernel
theorem dX5_addFeast_77 : decode cX5_addFeast 77 = .ok (.getfield 9, 3) := by decide +kernel
theorem dX5_addFeast_80 : decode cX5_addFeast 80 = .ok (.iconst 1, 1) := by decide +kernel
theorem dX5_addFeast_81 : decode cX5_addFeast 81 = .ok (.iadd, 1) := by decide +kernel
theorem dX5_addFeast_82 : decode cX5_addFeast 82 = .ok (.putfield 9, 3) := by decide +kernel
theorem dX5_addFeast_85 : decode cX5_addFeast 85 = .ok (.return_, 1) := by decide +kernel
theorem dX5_addStick_0 : decode cX5_addStick 0 = .ok (.aload_n 0, 1) := by decide +kernel
theorem dX5_addStick_1 : decode cX5_addStick 1 = .ok (.getfield 39, 3) := by decide +kernel
theorem dX5_addStick_4 : decode cX5_addStick 4 = .ok (.iconst 5, 1) := by decide +kernel
theorem dX5_addStick_5 : decode cX5_addStick 5 = .ok (.if_icmp .ge 13, 3) := by decide +kernel
theorem dX5_addStick_8 : decode cX5_addStick 8 = .ok (.aload_n 0, 1) := by decide +kernel
theorem dX5_addStick_9 : decode cX5_addStick 9 = .ok (.dup, 1) := by decide +kernel
theorem dX5_addStick_10 : decode cX5_addStick 10 = .ok (.getfield 39, 3) := by decide +kernel
theorem dX5_addStick_13 : decode cX5_addStick 13 = .ok (.iconst 1, 1) := by decide +kernel
theorem dX5_addStick_14 : decode cX5_addStick 14 = .ok (.iadd, 1) := by decide +kernel
theorem dX5_addStick_15 : decode cX5_addStick 15 = .ok (.putfield 39, 3) := by decide +kernel
theorem dX5_addStick_18 : decode cX5_addStick 18 = .ok (.aload_n 0, 1) := by decide +kernel
theorem dX5_addStick_19 : decode cX5_addStick 19 = .ok (.getfield 39, 3) := by decide +kernel
theorem dX5_addStick_22 : decode cX5_addStick 22 = .ok (.iconst 1, 1) := by decide +kernel
theorem dX5_addStick_23 : decode cX5_addStick 23 = .ok (.isub, 1) := by decide +kernel
theorem dX5_addStick_24 : decode cX5_addStick 24 = .ok (.istore 4, 2) := by decide +kernel
theorem dX5_addStick_26 : decode cX5_addStick 26 = .ok (.iload 4, 2) := by decide +kernel
theorem dX5_addStick_28 : decode cX5_addStick 28 = .ok (.ifCond .le 19, 3) := by decide +kernel
theorem dX5_addStick_31 : decode cX5_addStick 31 = .ok (.aload_n 0, 1) := by decide +kernel
theorem dX5_addStick_32 : decode cX5_addStick 32 = .ok (.iload 4, 2) := by decide +kernel
theorem dX5_addStick_34 : decode cX5_addStick 34 = .ok (.iconst 1, 1) := by decide +kernel
theorem dX5_addStick_35 : decode cX5_addStick 35 = .ok (.isub, 1) := by decide +kernel
theorem dX5_addStick_36 : decode cX5_addStick 36 = .ok (.iload 4, 2) := by decide +kernel
theorem dX5_addStick_38 : decode cX5_addStick 38 = .ok (.invokevirtual 80, 3) := by decide +kernel
theorem dX5_addStick_41 : decode cX5_addStick 41 = .ok (.iinc 4 (-1), 3) := by decide +kernel
theorem dX5_addStick_44 : decode cX5_addStick 44 = .ok (.goto (-18), 3) := by decide +kernel
theorem dX5_addStick_47 : decode cX5_addStick 47 = .ok (.aload_n 0, 1) := by decide +kernel
theorem dX5_addStick_48 : decode cX5_addStick 48 = .ok (.getfield 42, 3) := by decide +kernel
theorem dX5_addStick_51 : decode cX5_addStick 51 = .ok (.iconst 0, 1) := by decide +kernel
theorem dX5_addStick_52 : decode cX5_addStick 52 = .ok (.iload_n 1, 1) := by decide +kernel
theorem dX5_addStick_53 : decode cX5_addStick 53 = .ok (.invokevirtual 63, 3) := by decide +kernel
theorem dX5_addStick_56 : decode cX5_addStick 56 = .ok (.aload_n 0, 1) := by decide +kernel
theorem dX5_addStick_57 : decode cX5_addStick 57 = .ok (.getfield 45, 3) := by decide +kernel
theorem dX5_addStick_60 : decode cX5_addStick 60 = .ok (.iconst 0, 1) := by decide +kernel
theorem dX5_addStick_61 : decode cX5_addStick 61 = .ok (.iload_n 2, 1) := by decide +kernel
theorem dX5_addStick_62 : decode cX5_addStick 62 = .ok (.invokevirtual 63, 3) := by decide +kernel
theorem dX5_addStick_65 : decode cX5_addStick 65 = .ok (.aload_n 0, 1) := by decide +kernel
theorem dX5_addStick_66 : decode cX5_addStick 66 = .ok (.getfield 48, 3) := by decide +kernel
theorem dX5_addStick_69 : decode cX5_addStick 69 = .ok (.iconst 0, 1) := by decide +kernel
theorem dX5_addStick_70 : decode cX5_addStick 70 = .ok (.aload_n 0, 1) := by decide +kernel
theorem dX5_addStick_71 : decode cX5_addStick 71 = .ok (.getfield 9, 3) := by decide +kernel
theorem dX5_addStick_74 : decode cX5_addStick 74 = .ok (.invokevirtual 63, 3) := by decide +kernel
theorem dX5_addStick_77 : decode cX5_addStick 77 = .ok (.iconst 0, 1) := by decide +kernel
theorem dX5_addStick_78 : decode cX5_addStick 78 = .ok (.istore 4, 2) := by decide +kernel
theorem dX5_addStick_80 : decode cX5_addStick 80 = .ok (.iload 4, 2) := by decide +kernel
theorem dX5_addStick_82 : decode cX5_addStick 82 = .ok (.bipush 10, 2) := by decide +kernel
theorem dX5_addStick_84 : decode cX5_addStick 84 = .ok (.if_icmp .ge 24, 3) := by decide +kernel
theorem dX5_addStick_87 : decode cX5_addStick 87 = .ok (.aload_n 0, 1) := by decide +kernel
theorem dX5_addStick_88 : decode cX5_addStick 88 = .ok (.getfield 51, 3) := by decide +kernel
theorem dX5_addStick_91 : decode cX5_addStick 91 = .ok (.iload 4, 2) := by decide +kernel
theorem dX5_addStick_93 : decode cX5_addStick 93 = .ok (.aload_n 3, 1) := by decide +kernel
theorem dX5_addStick_94 : decode cX5_addStick 94 = .ok (.iload 4, 2) := by decide +kernel
theorem dX5_addStick_96 : decode cX5_addStick 96 = .ok (.invokevirtual 83, 3) := by decide +kernel
theorem dX5_addStick_99 : decode cX5_addStick 99 = .ok (.invokevirtual 63, 3) := by decide +kernel
theorem dX5_addStick_102 : decode cX5_addStick 102 = .ok (.iinc 4 1, 3) := by decide +kernel
theorem dX5_addStick_105 : decode cX5_addStick 105 = .ok (.goto (-25), 3) := by decide +kernel
theorem dX5_addStick_108 : decode cX5_addStick 108 = .ok (.return_, 1) := by decide +kernel
theorem dX5_dropStick_0 : decode cX5_dropStick 0 = .ok (.iload_n 1, 1) := by decide +kernel
theorem dX5_dropStick_1 : decode cX5_dropStick 1 = .ok (.istore_n 2, 1) := by decide +kernel
theorem dX5_dropStick_2 : decode cX5_dropStick 2 = .ok (.iload_n 2, 1) := by decide +kernel
theorem dX5_dropStick_3 : decode cX5_dropStick 3 = .ok (.aload_n 0, 1) := by decide +kernel
theorem dX5_dropStick_4 : decode cX5_dropStick 4 = .ok (.getfield 39, 3) := by decide +kernel
theorem dX5_dropStick_7 : decode cX5_dropStick 7 = .ok (.iconst 1, 1) := by decide +kernel
theorem dX5_dropStick_8 : decode cX5_dropStick 8 = .ok (.isub, 1) := by decide +kernel
theorem dX5_dropStick_9 : decode cX5_dropStick 9 = .ok (.if_icmp .ge 17, 3) := by decide +kernel
theorem dX5_dropStick_12 : decode cX5_dropStick 12 = .ok (.aload_n 0, 1) := by decide +kernel
theorem dX5_dropStick_13 : decode cX5_dropStick 13 = .ok (.iload_n 2, 1) := by decide +kernel
theorem dX5_dropStick_14 : decode cX5_dropStick 14 = .ok (.iconst 1, 1) := by decide +kernel
theorem dX5_dropStick_15 : decode cX5_dropStick 15 = .ok (.iadd, 1) := by decide +kernel
theorem dX5_dropStick_16 : decode cX5_dropStick 16 = .ok (.iload_n 2, 1) := by decide +kernel
theorem dX5_dropStick_17 : decode cX5_dropStick 17 = .ok (.invokevirtual 80, 3) := by decide +kernel
theorem dX5_dropStick_20 : decode cX5_dropStick 20 = .ok (.iinc 2 1, 3) := by decide +kernel
theorem dX5_dropStick_23 : decode cX5_dropStick 23 = .ok (.goto (-21), 3) := by decide +kernel
theorem dX5_dropStick_26 : decode cX5_dropStick 26 = .ok (.aload_n 0, 1) := by decide +kernel
theorem dX5_dropStick_27 : decode cX5_dropStick 27 = .ok (.dup, 1) := by decide +kernel
theorem dX5_dropStick_28 : decode cX5_dropStick 28 = .ok (.getfield 39, 3) := by decide +kernel
theorem dX5_dropStick_31 : decode cX5_dropStick 31 = .ok (.iconst 1, 1) := by decide +kernel
theorem dX5_dropStick_32 : decode cX5_dropStick 32 = .ok (.isub, 1) := by decide +kernel
theorem dX5_dropStick_33 : decode cX5_dropStick 33 = .ok (.putfield 39, 3) := by decide +kernel
theorem dX5_dropStick_36 : decode cX5_dropStick 36 = .ok (.return_, 1) := by decide +kernel
theorem dX5_copyStick_0 : decode cX5_copyStick 0 = .ok (.aload_n 0, 1) := by decide +kernel
theorem dX5_copyStick_1 : decode cX5_copyStick 1 = .ok (.getfield 42, 3) := by decide +kernel
theorem dX5_copyStick_4 : decode cX5_copyStick 4 = .ok (.iload_n 2, 1) := by decide +kernel
theorem dX5_copyStick_5 : decode cX5_copyStick 5 = .ok (.aload_n 0, 1) := by decide +kernel
theorem dX5_copyStick_6 : decode cX5_copyStick 6 = .ok (.getfield 42, 3) := by decide +kernel
theorem dX5_copyStick_9 : decode cX5_copyStick 9 = .ok (.iload_n 1, 1) := by decide +kernel
theorem dX5_copyStick_10 : decode cX5_copyStick 10 = .ok (.invokevirtual 83, 3) := by decide +kernel
theorem dX5_copyStick_13 : decode cX5_copyStick 13 = .ok (.invokevirtual 63, 3) := by decide +kernel
theorem dX5_copyStick_16 : decode cX5_copyStick 16 = .ok (.aload_n 0, 1) := by decide +kernel
theorem dX5_copyStick_17 : decode cX5_copyStick 17 = .ok (.getfield 45, 3) := by decide +kernel
theorem dX5_copyStick_20 : decode cX5_copyStick 20 = .ok (.iload_n 2, 1) := by decide +kernel
theorem dX5_copyStick_21 : decode cX5_copyStick 21 = .ok (.aload_n 0, 1) := by decide +kernel
theorem dX5_copyStick_22 : decode cX5_copyStick 22 = .ok (.getfield 45, 3) := by decide +kernel
theorem dX5_copyStick_25 : decode cX5_copyStick 25 = .ok (.iload_n 1, 1) := by decide +kernel
theorem dX5_copyStick_26 : decode cX5_copyStick 26 = .ok (.invokevirtual 83, 3) := by decide +kernel
theorem dX5_copyStick_29 : decode cX5_copyStick 29 = .ok (.invokevirtual 63, 3) := by decide +kernel
theorem dX5_copyStick_32 : decode cX5_copyStick 32 = .ok (.aload_n 0, 1) := by decide +kernel
theorem dX5_copyStick_33 : decode cX5_copyStick 33 = .ok (.getfield 48, 3) := by decide +kernel
theorem dX5_copyStick_36 : decode cX5_copyStick 36 = .ok (.iload_n 2, 1) := by decide +kernel
theorem dX5_copyStick_37 : decode cX5_copyStick 37 = .ok (.aload_n 0, 1) := by decide +kernel
theorem dX5_copyStick_38 : decode cX5_copyStick 38 = .ok (.getfield 48, 3) := by decide +kernel
theorem dX5_copyStick_41 : decode cX5_copyStick 41 = .ok (.iload_n 1, 1) := by decide +kernel
theorem dX5_copyStick_42 : decode cX5_copyStick 42 = .ok (.invokevirtual 83, 3) := by decide +kernel
theorem dX5_copyStick_45 : decode cX5_copyStick 45 = .ok (.invokevirtual 63, 3) := by decide +kernel
theorem dX5_copyStick_48 : decode cX5_copyStick 48 = .ok (.iconst 0, 1) := by decide +kernel
theorem dX5_copyStick_49 : decode cX5_copyStick 49 = .ok (.istore_n 3, 1) := by decide +kernel
theorem dX5_copyStick_50 : decode cX5_copyStick 50 = .ok (.iload_n 3, 1) := by decide +kernel
theorem dX5_copyStick_51 : decode cX5_copyStick 51 = .ok (.bipush 10, 2) := by decide +kernel
theorem dX5_copyStick_53 : decode cX5_copyStick 53 = .ok (.if_icmp .ge 28, 3) := by decide +kernel
theorem dX5_copyStick_56 : decode cX5_copyStick 56 = .ok (.aload_n 0, 1) := by decide +kernel
