theorem dX0_init_0 : decode cX0_init 0 = .ok (.aload_n 0, 1) := by decide +kernel
theorem dX0_init_1 : decode cX0_init 1 = .ok (.invokespecial 3, 3) := by decide +kernel
theorem dX0_init_4 : decode cX0_init 4 = .ok (.aload_n 0, 1) := by decide +kernel
theorem dX0_init_5 : decode cX0_init 5 = .ok (.new 9, 3) := by decide +kernel
theorem dX0_init_8 : decode cX0_init 8 = .ok (.dup, 1) := by decide +kernel
theorem dX0_init_9 : decode cX0_init 9 = .ok (.invokespecial 11, 3) := by decide +kernel
theorem dX0_init_12 : decode cX0_init 12 = .ok (.putfield 12, 3) := by decide +kernel
theorem dX0_init_15 : decode cX0_init 15 = .ok (.aload_n 0, 1) := by decide +kernel
theorem dX0_init_16 : decode cX0_init 16 = .ok (.new 9, 3) := by decide +kernel
theorem dX0_init_19 : decode cX0_init 19 = .ok (.dup, 1) := by decide +kernel
theorem dX0_init_20 : decode cX0_init 20 = .ok (.invokespecial 11, 3) := by decide +kernel
theorem dX0_init_23 : decode cX0_init 23 = .ok (.putfield 18, 3) := by decide +kernel
theorem dX0_init_26 : decode cX0_init 26 = .ok (.aload_n 0, 1) := by decide +kernel
theorem dX0_init_27 : decode cX0_init 27 = .ok (.new 9, 3) := by decide +kernel
theorem dX0_init_30 : decode cX0_init 30 = .ok (.dup, 1) := by decide +kernel
theorem dX0_init_31 : decode cX0_init 31 = .ok (.invokespecial 11, 3) := by decide +kernel
theorem dX0_init_34 : decode cX0_init 34 = .ok (.putfield 21, 3) := by decide +kernel
theorem dX0_init_37 : decode cX0_init 37 = .ok (.return_, 1) := by decide +kernel
theorem dX0_by_0 : decode cX0_by 0 = .ok (.iload_n 1, 1) := by decide +kernel
theorem dX0_by_1 : decode cX0_by 1 = .ok (.lookupswitch 37 #[(1, 27), (2, 32)], 27) := by decide +kernel
theorem dX0_by_28 : decode cX0_by 28 = .ok (.aload_n 0, 1) := by decide +kernel
theorem dX0_by_29 : decode cX0_by 29 = .ok (.getfield 18, 3) := by decide +kernel
theorem dX0_by_32 : decode cX0_by 32 = .ok (.areturn, 1) := by decide +kernel
theorem dX0_by_33 : decode cX0_by 33 = .ok (.aload_n 0, 1) := by decide +kernel
theorem dX0_by_34 : decode cX0_by 34 = .ok (.getfield 21, 3) := by decide +kernel
theorem dX0_by_37 : decode cX0_by 37 = .ok (.areturn, 1) := by decide +kernel
theorem dX0_by_38 : decode cX0_by 38 = .ok (.aload_n 0, 1) := by decide +kernel
theorem dX0_by_39 : decode cX0_by 39 = .ok (.getfield 12, 3) := by decide +kernel
theorem dX0_by_42 : decode cX0_by 42 = .ok (.areturn, 1) := by decide +kernel
theorem dX0_gather_0 : decode cX0_gather 0 = .ok (.iconst 0, 1) := by decide +kernel
theorem dX0_gather_1 : decode cX0_gather 1 = .ok (.istore_n 3, 1) := by decide +kernel
theorem dX0_gather_2 : decode cX0_gather 2 = .ok (.iload_n 3, 1) := by decide +kernel
theorem dX0_gather_3 : decode cX0_gather 3 = .ok (.iconst 3, 1) := by decide +kernel
theorem dX0_gather_4 : decode cX0_gather 4 = .ok (.if_icmp .ge 27, 3) := by decide +kernel
theorem dX0_gather_7 : decode cX0_gather 7 = .ok (.aload_n 0, 1) := by decide +kernel
theorem dX0_gather_8 : decode cX0_gather 8 = .ok (.iload_n 3, 1) := by decide +kernel
theorem dX0_gather_9 : decode cX0_gather 9 = .ok (.invokevirtual 24, 3) := by decide +kernel
theorem dX0_gather_12 : decode cX0_gather 12 = .ok (.aload_n 1, 1) := by decide +kernel
theorem dX0_gather_13 : decode cX0_gather 13 = .ok (.iload_n 2, 1) := by decide +kernel
theorem dX0_gather_14 : decode cX0_gather 14 = .ok (.aload_n 1, 1) := by decide +kernel
theorem dX0_gather_15 : decode cX0_gather 15 = .ok (.getfield 28, 3) := by decide +kernel
theorem dX0_gather_18 : decode cX0_gather 18 = .ok (.iload_n 3, 1) := by decide +kernel
theorem dX0_gather_19 : decode cX0_gather 19 = .ok (.invokevirtual 34, 3) := by decide +kernel
theorem dX0_gather_22 : decode cX0_gather 22 = .ok (.invokevirtual 40, 3) := by decide +kernel
theorem dX0_gather_25 : decode cX0_gather 25 = .ok (.iinc 3 1, 3) := by decide +kernel
theorem dX0_gather_28 : decode cX0_gather 28 = .ok (.goto (-26), 3) := by decide +kernel
theorem dX0_gather_31 : decode cX0_gather 31 = .ok (.return_, 1) := by decide +kernel
theorem dX0_settledNotch_0 : decode cX0_settledNotch 0 = .ok (.aload_n 0, 1) := by decide +kernel
theorem dX0_settledNotch_1 : decode cX0_settledNotch 1 = .ok (.getfield 18, 3) := by decide +kernel
theorem dX0_settledNotch_4 : decode cX0_settledNotch 4 = .ok (.getfield 44, 3) := by decide +kernel
theorem dX0_settledNotch_7 : decode cX0_settledNotch 7 = .ok (.iload_n 1, 1) := by decide +kernel
theorem dX0_settledNotch_8 : decode cX0_settledNotch 8 = .ok (.invokevirtual 34, 3) := by decide +kernel
theorem dX0_settledNotch_11 : decode cX0_settledNotch 11 = .ok (.istore_n 2, 1) := by decide +kernel
theorem dX0_settledNotch_12 : decode cX0_settledNotch 12 = .ok (.iload_n 2, 1) := by decide +kernel
theorem dX0_settledNotch_13 : decode cX0_settledNotch 13 = .ok (.aload_n 0, 1) := by decide +kernel
theorem dX0_settledNotch_14 : decode cX0_settledNotch 14 = .ok (.getfield 21, 3) := by decide +kernel
theorem dX0_settledNotch_17 : decode cX0_settledNotch 17 = .ok (.getfield 44, 3) := by decide +kernel
theorem dX0_settledNotch_20 : decode cX0_settledNotch 20 = .ok (.iload_n 1, 1) := by decide +kernel
theorem dX0_settledNotch_21 : decode cX0_settledNotch 21 = .ok (.invokevirtual 34, 3) := by decide +kernel
theorem dX0_settledNotch_24 : decode cX0_settledNotch 24 = .ok (.if_icmp .ne 7, 3) := by decide +kernel
theorem dX0_settledNotch_27 : decode cX0_settledNotch 27 = .ok (.iload_n 2, 1) := by decide +kernel
theorem dX0_settledNotch_28 : decode cX0_settledNotch 28 = .ok (.goto 14, 3) := by decide +kernel
theorem dX0_settledNotch_31 : decode cX0_settledNotch 31 = .ok (.aload_n 0, 1) := by decide +kernel
theorem dX0_settledNotch_32 : decode cX0_settledNotch 32 = .ok (.getfield 12, 3) := by decide +kernel
theorem dX0_settledNotch_35 : decode cX0_settledNotch 35 = .ok (.getfield 44, 3) := by decide +kernel
theorem dX0_settledNotch_38 : decode cX0_settledNotch 38 = .ok (.iload_n 1, 1) := by decide +kernel
theorem dX0_settledNotch_39 : decode cX0_settledNotch 39 = .ok (.invokevirtual 34, 3) := by decide +kernel
theorem dX0_settledNotch_42 : decode cX0_settledNotch 42 = .ok (.ireturn, 1) := by decide +kernel
theorem dX0_quarrelCount_0 : decode cX0_quarrelCount 0 = .ok (.iconst 0, 1) := by decide +kernel
theorem dX0_quarrelCount_1 : decode cX0_quarrelCount 1 = .ok (.istore_n 2, 1) := by decide +kernel
theorem dX0_quarrelCount_2 : decode cX0_quarrelCount 2 = .ok (.iconst 0, 1) := by decide +kernel
theorem dX0_quarrelCount_3 : decode cX0_quarrelCount 3 = .ok (.istore_n 3, 1) := by decide +kernel
theorem dX0_quarrelCount_4 : decode cX0_quarrelCount 4 = .ok (.iload_n 3, 1) := by decide +kernel
theorem dX0_quarrelCount_5 : decode cX0_quarrelCount 5 = .ok (.iload_n 1, 1) := by decide +kernel
theorem dX0_quarrelCount_6 : decode cX0_quarrelCount 6 = .ok (.if_icmp .ge 57, 3) := by decide +kernel
theorem dX0_quarrelCount_9 : decode cX0_quarrelCount 9 = .ok (.aload_n 0, 1) := by decide +kernel
theorem dX0_quarrelCount_10 : decode cX0_quarrelCount 10 = .ok (.getfield 12, 3) := by decide +kernel
theorem dX0_quarrelCount_13 : decode cX0_quarrelCount 13 = .ok (.getfield 44, 3) := by decide +kernel
theorem dX0_quarrelCount_16 : decode cX0_quarrelCount 16 = .ok (.iload_n 3, 1) := by decide +kernel
theorem dX0_quarrelCount_17 : decode cX0_quarrelCount 17 = .ok (.invokevirtual 34, 3) := by decide +kernel
theorem dX0_quarrelCount_20 : decode cX0_quarrelCount 20 = .ok (.istore 4, 2) := by decide +kernel
theorem dX0_quarrelCount_22 : decode cX0_quarrelCount 22 = .ok (.iload 4, 2) := by decide +kernel
theorem dX0_quarrelCount_24 : decode cX0_quarrelCount 24 = .ok (.aload_n 0, 1) := by decide +kernel
theorem dX0_quarrelCount_25 : decode cX0_quarrelCount 25 = .ok (.getfield 18, 3) := by decide +kernel
theorem dX0_quarrelCount_28 : decode cX0_quarrelCount 28 = .ok (.getfield 44, 3) := by decide +kernel
theorem dX0_quarrelCount_31 : decode cX0_quarrelCount 31 = .ok (.iload_n 3, 1) := by decide +kernel
theorem dX0_quarrelCount_32 : decode cX0_quarrelCount 32 = .ok (.invokevirtual 34, 3) := by decide +kernel
theorem dX0_quarrelCount_35 : decode cX0_quarrelCount 35 = .ok (.if_icmp .ne 19, 3) := by decide +kernel
theorem dX0_quarrelCount_38 : decode cX0_quarrelCount 38 = .ok (.iload 4, 2) := by decide +kernel
theorem dX0_quarrelCount_40 : decode cX0_quarrelCount 40 = .ok (.aload_n 0, 1) := by decide +kernel
theorem dX0_quarrelCount_41 : decode cX0_quarrelCount 41 = .ok (.getfield 21, 3) := by decide +kernel
theorem dX0_quarrelCount_44 : decode cX0_quarrelCount 44 = .ok (.getfield 44, 3) := by decide +kernel
theorem dX0_quarrelCount_47 : decode cX0_quarrelCount 47 = .ok (.iload_n 3, 1) := by decide +kernel
theorem dX0_quarrelCount_48 : decode cX0_quarrelCount 48 = .ok (.invokevirtual 34, 3) := by decide +kernel
theorem dX0_quarrelCount_51 : decode cX0_quarrelCount 51 = .ok (.if_icmp .eq 6, 3) := by decide +kernel
theorem dX0_quarrelCount_54 : decode cX0_quarrelCount 54 = .ok (.iinc 2 1, 3) := by decide +kernel
theorem dX0_quarrelCount_57 : decode cX0_quarrelCount 57 = .ok (.iinc 3 1, 3) := by decide +kernel
theorem dX0_quarrelCount_60 : decode cX0_quarrelCount 60 = .ok (.goto (-56), 3) := by decide +kernel
theorem dX0_quarrelCount_63 : decode cX0_quarrelCount 63 = .ok (.iload_n 2, 1) := by decide +kernel
theorem dX0_quarrelCount_64 : decode cX0_quarrelCount 64 = .ok (.ireturn, 1) := by decide +kernel
theorem dX0_settlesLike_0 : decode cX0_settlesLike 0 = .ok (.iconst 0, 1) := by decide +kernel
theorem dX0_settlesLike_1 : decode cX0_settlesLike 1 = .ok (.istore_n 3, 1) := by decide +kernel
theorem dX0_settlesLike_2 : decode cX0_settlesLike 2 = .ok (.iload_n 3, 1) := by decide +kernel
theorem dX0_settlesLike_3 : decode cX0_settlesLike 3 = .ok (.iload_n 2, 1) := by decide +kernel
theorem dX0_settlesLike_4 : decode cX0_settlesLike 4 = .ok (.if_icmp .ge 24, 3) := by decide +kernel
theorem dX0_settlesLike_7 : decode cX0_settlesLike 7 = .ok (.aload_n 0, 1) := by decide +kernel
theorem dX0_settlesLike_8 : decode cX0_settlesLike 8 = .ok (.iload_n 3, 1) := by decide +kernel
theorem dX0_settlesLike_9 : decode cX0_settlesLike 9 = .ok (.invokevirtual 47, 3) := by decide +kernel
theorem dX0_settlesLike_12 : decode cX0_settlesLike 12 = .ok (.aload_n 1, 1) := by decide +kernel
theorem dX0_settlesLike_13 : decode cX0_settlesLike 13 = .ok (.iload_n 3, 1) := by decide +kernel
theorem dX0_settlesLike_14 : decode cX0_settlesLike 14 = .ok (.invokevirtual 47, 3) := by decide +kernel
theorem dX0_settlesLike_17 : decode cX0_settlesLike 17 = .ok (.if_icmp .eq 5, 3) := by decide +kernel
theorem dX0_settlesLike_20 : decode cX0_settlesLike 20 = .ok (.iconst 0, 1) := by decide +kernel
theorem dX0_settlesLike_21 : decode cX0_settlesLike 21 = .ok (.ireturn, 1) := by decide +kernel
theorem dX0_settlesLike_22 : decode cX0_settlesLike 22 = .ok (.iinc 3 1, 3) := by decide +kernel
theorem dX0_settlesLike_25 : decode cX0_settlesLike 25 = .ok (.goto (-23), 3) := by decide +kernel
theorem dX0_settlesLike_28 : decode cX0_settlesLike 28 = .ok (.iconst 1, 1) := by decide +kernel
theorem dX0_settlesLike_29 : decode cX0_settlesLike 29 = .ok (.ireturn, 1) := by decide +kernel
theorem dX1_init_0 : decode cX1_init 0 = .ok (.aload_n 0, 1) := by decide +kernel
theorem dX1_init_1 : decode cX1_init 1 = .ok (.invokespecial 3, 3) := by decide +kernel
theorem dX1_init_4 : decode cX1_init 4 = .ok (.aload_n 0, 1) := by decide +kernel
theorem dX1_init_5 : decode cX1_init 5 = .ok (.bipush 6, 2) := by decide +kernel
theorem dX1_init_7 : decode cX1_init 7 = .ok (.anewarray 9, 3) := by decide +kernel
theorem dX1_init_10 : decode cX1_init 10 = .ok (.putfield 11, 3) := by decide +kernel
theorem dX1_init_13 : decode cX1_init 13 = .ok (.aload_n 0, 1) := by decide +kernel
theorem dX1_init_14 : decode cX1_init 14 = .ok (.iconst 0, 1) := by decide +kernel
theorem dX1_init_15 : decode cX1_init 15 = .ok (.putfield 17, 3) := by decide +kernel
theorem dX1_init_18 : decode cX1_init 18 = .ok (.aload_n 0, 1) := by decide +kernel
theorem dX1_init_19 : decode cX1_init 19 = .ok (.iconst 0, 1) := by decide +kernel
theorem dX1_init_20 : decode cX1_init 20 = .ok (.putfield 21, 3) := by decide +kernel
theorem dX1_init_23 : decode cX1_init 23 = .ok (.iconst 0, 1) := by decide +kernel
theorem dX1_init_24 : decode cX1_init 24 = .ok (.istore_n 1, 1) := by decide +kernel
theorem dX1_init_25 : decode cX1_init 25 = .ok (.iload_n 1, 1) := by decide +kernel
theorem dX1_init_26 : decode cX1_init 26 = .ok (.aload_n 0, 1) := by decide +kernel
theorem dX1_init_27 : decode cX1_init 27 = .ok (.getfield 11, 3) := by decide +kernel
theorem dX1_init_30 : decode cX1_init 30 = .ok (.arraylength, 1) := by decide +kernel
theorem dX1_init_31 : decode cX1_init 31 = .ok (.if_icmp .ge 22, 3) := by decide +kernel
theorem dX1_init_34 : decode cX1_init 34 = .ok (.aload_n 0, 1) := by decide +kernel
theorem dX1_init_35 : decode cX1_init 35 = .ok (.getfield 11, 3) := by decide +kernel
theorem dX1_init_38 : decode cX1_init 38 = .ok (.iload_n 1, 1) := by decide +kernel
theorem dX1_init_39 : decode cX1_init 39 = .ok (.new 9, 3) := by decide +kernel
theorem dX1_init_42 : decode cX1_init 42 = .ok (.dup, 1) := by decide +kernel
theorem dX1_init_43 : decode cX1_init 43 = .ok (.invokespecial 24, 3) := by decide +kernel
theorem dX1_init_46 : decode cX1_init 46 = .ok (.aastore, 1) := by decide +kernel
theorem dX1_init_47 : decode cX1_init 47 = .ok (.iinc 1 1, 3) := by decide +kernel
theorem dX1_init_50 : decode cX1_init 50 = .ok (.goto (-25), 3) := by decide +kernel
theorem dX1_init_53 : decode cX1_init 53 = .ok (.return_, 1) := by decide +kernel
theorem dX1_size_0 : decode cX1_size 0 = .ok (.aload_n 0, 1) := by decide +kernel
theorem dX1_size_1 : decode cX1_size 1 = .ok (.getfield 21, 3) := by decide +kernel
theorem dX1_size_4 : decode cX1_size 4 = .ok (.ireturn, 1) := by decide +kernel
theorem dX1_isEmpty_0 : decode cX1_isEmpty 0 = .ok (.aload_n 0, 1) := by decide +kernel
theorem dX1_isEmpty_1 : decode cX1_isEmpty 1 = .ok (.getfield 21, 3) := by decide +kernel
theorem dX1_isEmpty_4 : decode cX1_isEmpty 4 = .ok (.ifCond .gt 7, 3) := by decide +kernel
theorem dX1_isEmpty_7 : decode cX1_isEmpty 7 = .ok (.iconst 1, 1) := by decide +kernel
theorem dX1_isEmpty_8 : decode cX1_isEmpty 8 = .ok (.goto 4, 3) := by decide +kernel
theorem dX1_isEmpty_11 : decode cX1_isEmpty 11 = .ok (.iconst 0, 1) := by decide +kernel
theorem dX1_isEmpty_12 : decode cX1_isEmpty 12 = .ok (.ireturn, 1) := by decide +kernel
theorem dX1_save_0 : decode cX1_save 0 = .ok (.aload_n 0, 1) := by decide +kernel
theorem dX1_save_1 : decode cX1_save 1 = .ok (.getfield 21, 3) := by decide +kernel
theorem dX1_save_4 : decode cX1_save 4 = .ok (.bipush 6, 2) := by decide +kernel
theorem dX1_save_6 : decode cX1_save 6 = .ok (.if_icmp .lt 26, 3) := by decide +kernel
theorem dX1_save_9 : decode cX1_save 9 = .ok (.aload_n 0, 1) := by decide +kernel
theorem dX1_save_10 : decode cX1_save 10 = .ok (.aload_n 0, 1) := by decide +kernel
theorem dX1_save_11 : decode cX1_save 11 = .ok (.getfield 17, 3) := by decide +kernel
theorem dX1_save_14 : decode cX1_save 14 = .ok (.iconst 1, 1) := by decide +kernel
theorem dX1_save_15 : decode cX1_save 15 = .ok (.iadd, 1) := by decide +kernel
theorem dX1_save_16 : decode cX1_save 16 = .ok (.bipush 6, 2) := by decide +kernel
theorem dX1_save_18 : decode cX1_save 18 = .ok (.irem, 1) := by decide +kernel
theorem dX1_save_19 : decode cX1_save 19 = .ok (.putfield 17, 3) := by decide +kernel
theorem dX1_save_22 : decode cX1_save 22 = .ok (.aload_n 0, 1) := by decide +kernel
theorem dX1_save_23 : decode cX1_save 23 = .ok (.dup, 1) := by decide +kernel
theorem dX1_save_24 : decode cX1_save 24 = .ok (.getfield 21, 3) := by decide +kernel
theorem dX1_save_27 : decode cX1_save 27 = .ok (.iconst 1, 1) := by decide +kernel
theorem dX1_save_28 : decode cX1_save 28 = .ok (.isub, 1) := by decide +kernel
theorem dX1_save_29 : decode cX1_save 29 = .ok (.putfield 21, 3) := by decide +kernel
theorem dX1_save_32 : decode cX1_save 32 = .ok (.aload_n 0, 1) := by decide +kernel
theorem dX1_save_33 : decode cX1_save 33 = .ok (.aload_n 0, 1) := by decide +kernel
theorem dX1_save_34 : decode cX1_save 34 = .ok (.getfield 21, 3) := by decide +kernel
theorem dX1_save_37 : decode cX1_save 37 = .ok (.invokevirtual 25, 3) := by decide +kernel
theorem dX1_save_40 : decode cX1_save 40 = .ok (.astore_n 2, 1) := by decide +kernel
theorem dX1_save_41 : decode cX1_save 41 = .ok (.aload_n 2, 1) := by decide +kernel
theorem dX1_save_42 : decode cX1_save 42 = .ok (.ifnull 8, 3) := by decide +kernel
theorem dX1_save_45 : decode cX1_save 45 = .ok (.aload_n 2, 1) := by decide +kernel
theorem dX1_save_46 : decode cX1_save 46 = .ok (.aload_n 1, 1) := by decide +kernel
theorem dX1_save_47 : decode cX1_save 47 = .ok (.invokevirtual 29, 3) := by decide +kernel
theorem dX1_save_50 : decode cX1_save 50 = .ok (.aload_n 0, 1) := by decide +kernel
theorem dX1_save_51 : decode cX1_save 51 = .ok (.dup, 1) := by decide +kernel
theorem dX1_save_52 : decode cX1_save 52 = .ok (.getfield 21, 3) := by decide +kernel
theorem dX1_save_55 : decode cX1_save 55 = .ok (.iconst 1, 1) := by decide +kernel
theorem dX1_save_56 : decode cX1_save 56 = .ok (.iadd, 1) := by decide +kernel
theorem dX1_save_57 : decode cX1_save 57 = .ok (.putfield 21, 3) := by decide +kernel
theorem dX1_save_60 : decode cX1_save 60 = .ok (.return_, 1) := by decide +kernel
theorem dX1_restoreInto_0 : decode cX1_restoreInto 0 = .ok (.aload_n 0, 1) := by decide +kernel
theorem dX1_restoreInto_1 : decode cX1_restoreInto 1 = .ok (.dup, 1) := by decide +kernel
theorem dX1_restoreInto_2 : decode cX1_restoreInto 2 = .ok (.getfield 21, 3) := by decide +kernel
theorem dX1_restoreInto_5 : decode cX1_restoreInto 5 = .ok (.iconst 1, 1) := by decide +kernel
theorem dX1_restoreInto_6 : decode cX1_restoreInto 6 = .ok (.isub, 1) := by decide +kernel
theorem dX1_restoreInto_7 : decode cX1_restoreInto 7 = .ok (.putfield 21, 3) := by decide +kernel
theorem dX1_restoreInto_10 : decode cX1_restoreInto 10 = .ok (.aload_n 0, 1) := by decide +kernel
theorem dX1_restoreInto_11 : decode cX1_restoreInto 11 = .ok (.aload_n 0, 1) := by decide +kernel
theorem dX1_restoreInto_12 : decode cX1_restoreInto 12 = .ok (.getfield 21, 3) := by decide +kernel
theorem dX1_restoreInto_15 : decode cX1_restoreInto 15 = .ok (.invokevirtual 25, 3) := by decide +kernel
theorem dX1_restoreInto_18 : decode cX1_restoreInto 18 = .ok (.astore_n 2, 1) := by decide +kernel
theorem dX1_restoreInto_19 : decode cX1_restoreInto 19 = .ok (.aload_n 2, 1) := by decide +kernel
theorem dX1_restoreInto_20 : decode cX1_restoreInto 20 = .ok (.ifnull 8, 3) := by decide +kernel
theorem dX1_restoreInto_23 : decode cX1_restoreInto 23 = .ok (.aload_n 1, 1) := by decide +kernel
theorem dX1_restoreInto_24 : decode cX1_restoreInto 24 = .ok (.aload_n 2, 1) := by decide +kernel
theorem dX1_restoreInto_25 : decode cX1_restoreInto 25 = .ok (.invokevirtual 29, 3) := by decide +kernel
theorem dX1_restoreInto_28 : decode cX1_restoreInto 28 = .ok (.return_, 1) := by decide +kernel
theorem dX1_stateAt_0 : decode cX1_stateAt 0 = .ok (.aload_n 0, 1) := by decide +kernel
theorem dX1_stateAt_1 : decode cX1_stateAt 1 = .ok (.getfield 17, 3) := by decide +kernel
theorem dX1_stateAt_4 : decode cX1_stateAt 4 = .ok (.iload_n 1, 1) := by decide +kernel
theorem dX1_stateAt_5 : decode cX1_stateAt 5 = .ok (.iadd, 1) := by decide +kernel
theorem dX1_stateAt_6 : decode cX1_stateAt 6 = .ok (.bipush 6, 2) := by decide +kernel
theorem dX1_stateAt_8 : decode cX1_stateAt 8 = .ok (.irem, 1) := by decide +kernel
theorem dX1_stateAt_9 : decode cX1_stateAt 9 = .ok (.istore_n 2, 1) := by decide +kernel
theorem dX1_stateAt_10 : decode cX1_stateAt 10 = .ok (.iload_n 2, 1) := by decide +kernel
theorem dX1_stateAt_11 : decode cX1_stateAt 11 = .ok (.ifCond .lt 21, 3) := by decide +kernel
theorem dX1_stateAt_14 : decode cX1_stateAt 14 = .ok (.iload_n 2, 1) := by decide +kernel
theorem dX1_stateAt_15 : decode cX1_stateAt 15 = .ok (.aload_n 0, 1) := by decide +kernel
theorem dX1_stateAt_16 : decode cX1_stateAt 16 = .ok (.getfield 11, 3) := by decide +kernel
theorem dX1_stateAt_19 : decode cX1_stateAt 19 = .ok (.arraylength, 1) := by decide +kernel
theorem dX1_stateAt_20 : decode cX1_stateAt 20 = .ok (.if_icmp .ge 12, 3) := by decide +kernel
theorem dX1_stateAt_23 : decode cX1_stateAt 23 = .ok (.aload_n 0, 1) := by decide +kernel
theorem dX1_stateAt_24 : decode cX1_stateAt 24 = .ok (.getfield 11, 3) := by decide +kernel
theorem dX1_stateAt_27 : decode cX1_stateAt 27 = .ok (.iload_n 2, 1) := by decide +kernel
theorem dX1_stateAt_28 : decode cX1_stateAt 28 = .ok (.aaload, 1) := by decide +kernel
theorem dX1_stateAt_29 : decode cX1_stateAt 29 = .ok (.goto 4, 3) := by decide +kernel
theorem dX1_stateAt_32 : decode cX1_stateAt 32 = .ok (.aconst_null, 1) := by decide +kernel
theorem dX1_stateAt_33 : decode cX1_stateAt 33 = .ok (.areturn, 1) := by decide +kernel
theorem dX2_init_0 : decode cX2_init 0 = .ok (.aload_n 0, 1) := by decide +kernel
theorem dX2_init_1 : decode cX2_init 1 = .ok (.invokespecial 3, 3) := by decide +kernel
theorem dX2_init_4 : decode cX2_init 4 = .ok (.return_, 1) := by decide +kernel
theorem dX2_start_0 : decode cX2_start 0 = .ok (.aload_n 0, 1) := by decide +kernel
theorem dX2_start_1 : decode cX2_start 1 = .ok (.iconst 0, 1) := by decide +kernel
theorem dX2_start_2 : decode cX2_start 2 = .ok (.putfield 11, 3) := by decide +kernel
theorem dX2_start_5 : decode cX2_start 5 = .ok (.aload_n 0, 1) := by decide +kernel
theorem dX2_start_6 : decode cX2_start 6 = .ok (.iconst 0, 1) := by decide +kernel
theorem dX2_start_7 : decode cX2_start 7 = .ok (.putfield 15, 3) := by decide +kernel
theorem dX2_start_10 : decode cX2_start 10 = .ok (.aload_n 0, 1) := by decide +kernel
theorem dX2_start_11 : decode cX2_start 11 = .ok (.iconst 0, 1) := by decide +kernel
theorem dX2_start_12 : decode cX2_start 12 = .ok (.putfield 18, 3) := by decide +kernel
theorem dX2_start_15 : decode cX2_start 15 = .ok (.aload_n 0, 1) := by decide +kernel
theorem dX2_start_16 : decode cX2_start 16 = .ok (.iconst 0, 1) := by decide +kernel
theorem dX2_start_17 : decode cX2_start 17 = .ok (.putfield 21, 3) := by decide +kernel
theorem dX2_start_20 : decode cX2_start 20 = .ok (.aload_n 0, 1) := by decide +kernel
theorem dX2_start_21 : decode cX2_start 21 = .ok (.iconst (-1), 1) := by decide +kernel
theorem dX2_start_22 : decode cX2_start 22 = .ok (.putfield 25, 3) := by decide +kernel
theorem dX2_start_25 : decode cX2_start 25 = .ok (.aload_n 0, 1) := by decide +kernel
theorem dX2_start_26 : decode cX2_start 26 = .ok (.iconst 0, 1) := by decide +kernel
theorem dX2_start_27 : decode cX2_start 27 = .ok (.putfield 28, 3) := by decide +kernel
theorem dX2_start_30 : decode cX2_start 30 = .ok (.return_, 1) := by decide +kernel
theorem dX2_mayEnd_0 : decode cX2_mayEnd 0 = .ok (.aload_n 0, 1) := by decide +kernel
theorem dX2_mayEnd_1 : decode cX2_mayEnd 1 = .ok (.getfield 11, 3) := by decide +kernel
theorem dX2_mayEnd_4 : decode cX2_mayEnd 4 = .ok (.bipush 6, 2) := by decide +kernel
theorem dX2_mayEnd_6 : decode cX2_mayEnd 6 = .ok (.if_icmp .eq 27, 3) := by decide +kernel
theorem dX2_mayEnd_9 : decode cX2_mayEnd 9 = .ok (.aload_n 0, 1) := by decide +kernel
theorem dX2_mayEnd_10 : decode cX2_mayEnd 10 = .ok (.getfield 11, 3) := by decide +kernel
theorem dX2_mayEnd_13 : decode cX2_mayEnd 13 = .ok (.bipush 8, 2) := by decide +kernel
theorem dX2_mayEnd_15 : decode cX2_mayEnd 15 = .ok (.if_icmp .eq 18, 3) := by decide +kernel
theorem dX2_mayEnd_18 : decode cX2_mayEnd 18 = .ok (.aload_n 0, 1) := by decide +kernel
theorem dX2_mayEnd_19 : decode cX2_mayEnd 19 = .ok (.getfield 11, 3) := by decide +kernel
theorem dX2_mayEnd_22 : decode cX2_mayEnd 22 = .ok (.iconst 4, 1) := by decide +kernel
theorem dX2_mayEnd_23 : decode cX2_mayEnd 23 = .ok (.if_icmp .ne 14, 3) := by decide +kernel
theorem dX2_mayEnd_26 : decode cX2_mayEnd 26 = .ok (.aload_n 0, 1) := by decide +kernel
theorem dX2_mayEnd_27 : decode cX2_mayEnd 27 = .ok (.invokevirtual 31, 3) := by decide +kernel
theorem dX2_mayEnd_30 : decode cX2_mayEnd 30 = .ok (.ifCond .ne 7, 3) := by decide +kernel
theorem dX2_mayEnd_33 : decode cX2_mayEnd 33 = .ok (.iconst 1, 1) := by decide +kernel
theorem dX2_mayEnd_34 : decode cX2_mayEnd 34 = .ok (.goto 4, 3) := by decide +kernel
theorem dX2_mayEnd_37 : decode cX2_mayEnd 37 = .ok (.iconst 0, 1) := by decide +kernel
theorem dX2_mayEnd_38 : decode cX2_mayEnd 38 = .ok (.ireturn, 1) := by decide +kernel
theorem dX2_reads_0 : decode cX2_reads 0 = .ok (.aload_n 0, 1) := by decide +kernel
theorem dX2_reads_1 : decode cX2_reads 1 = .ok (.getfield 11, 3) := by decide +kernel
theorem dX2_reads_4 : decode cX2_reads 4 = .ok (.tableswitch 137 0 7 #[48, 54, 63, 69, 75, 115, 125, 131], 48) := by decide +kernel
theorem dX2_reads_52 : decode cX2_reads 52 = .ok (.aload_n 0, 1) := by decide +kernel
theorem dX2_reads_53 : decode cX2_reads 53 = .ok (.iload_n 1, 1) := by decide +kernel
theorem dX2_reads_54 : decode cX2_reads 54 = .ok (.invokevirtual 35, 3) := by decide +kernel
theorem dX2_reads_57 : decode cX2_reads 57 = .ok (.ireturn, 1) := by decide +kernel
theorem dX2_reads_58 : decode cX2_reads 58 = .ok (.aload_n 0, 1) := by decide +kernel
theorem dX2_reads_59 : decode cX2_reads 59 = .ok (.iload_n 1, 1) := by decide +kernel
theorem dX2_reads_60 : decode cX2_reads 60 = .ok (.bipush 9, 2) := by decide +kernel
theorem dX2_reads_62 : decode cX2_reads 62 = .ok (.iconst 2, 1) := by decide +kernel
theorem dX2_reads_63 : decode cX2_reads 63 = .ok (.invokevirtual 39, 3) := by decide +kernel
theorem dX2_reads_66 : decode cX2_reads 66 = .ok (.ireturn, 1) := by decide +kernel
theorem dX2_reads_67 : decode cX2_reads 67 = .ok (.aload_n 0, 1) := by decide +kernel
theorem dX2_reads_68 : decode cX2_reads 68 = .ok (.iload_n 1, 1) := by decide +kernel
theorem dX2_reads_69 : decode cX2_reads 69 = .ok (.invokevirtual 43, 3) := by decide +kernel
theorem dX2_reads_72 : decode cX2_reads 72 = .ok (.ireturn, 1) := by decide +kernel
theorem dX2_reads_73 : decode cX2_reads 73 = .ok (.aload_n 0, 1) := by decide +kernel
theorem dX2_reads_74 : decode cX2_reads 74 = .ok (.iload_n 1, 1) := by decide +kernel
theorem dX2_reads_75 : decode cX2_reads 75 = .ok (.invokevirtual 46, 3) := by decide +kernel
theorem dX2_reads_78 : decode cX2_reads 78 = .ok (.ireturn, 1) := by decide +kernel
theorem dX2_reads_79 : decode cX2_reads 79 = .ok (.aload_n 0, 1) := by decide +kernel
theorem dX2_reads_80 : decode cX2_reads 80 = .ok (.iload_n 1, 1) := by decide +kernel
theorem dX2_reads_81 : decode cX2_reads 81 = .ok (.invokevirtual 49, 3) := by decide +kernel
theorem dX2_reads_84 : decode cX2_reads 84 = .ok (.ifCond .ne 29, 3) := by decide +kernel
theorem dX2_reads_87 : decode cX2_reads 87 = .ok (.aload_n 0, 1) := by decide +kernel
theorem dX2_reads_88 : decode cX2_reads 88 = .ok (.invokevirtual 31, 3) := by decide +kernel
theorem dX2_reads_91 : decode cX2_reads 91 = .ok (.ifCond .eq 14, 3) := by decide +kernel
theorem dX2_reads_94 : decode cX2_reads 94 = .ok (.aload_n 0, 1) := by decide +kernel
theorem dX2_reads_95 : decode cX2_reads 95 = .ok (.iload_n 1, 1) := by decide +kernel
theorem dX2_reads_96 : decode cX2_reads 96 = .ok (.invokevirtual 52, 3) := by decide +kernel
theorem dX2_reads_99 : decode cX2_reads 99 = .ok (.ifCond .eq 18, 3) := by decide +kernel
theorem dX2_reads_102 : decode cX2_reads 102 = .ok (.goto 11, 3) := by decide +kernel
theorem dX2_reads_105 : decode cX2_reads 105 = .ok (.aload_n 0, 1) := by decide +kernel
theorem dX2_reads_106 : decode cX2_reads 106 = .ok (.iload_n 1, 1) := by decide +kernel
theorem dX2_reads_107 : decode cX2_reads 107 = .ok (.invokevirtual 55, 3) := by decide +kernel
theorem dX2_reads_110 : decode cX2_reads 110 = .ok (.ifCond .eq 7, 3) := by decide +kernel
theorem dX2_reads_113 : decode cX2_reads 113 = .ok (.iconst 1, 1) := by decide +kernel
theorem dX2_reads_114 : decode cX2_reads 114 = .ok (.goto 4, 3) := by decide +kernel
theorem dX2_reads_117 : decode cX2_reads 117 = .ok (.iconst 0, 1) := by decide +kernel
theorem dX2_reads_118 : decode cX2_reads 118 = .ok (.ireturn, 1) := by decide +kernel
theorem dX2_reads_119 : decode cX2_reads 119 = .ok (.aload_n 0, 1) := by decide +kernel
theorem dX2_reads_120 : decode cX2_reads 120 = .ok (.iload_n 1, 1) := by decide +kernel
theorem dX2_reads_121 : decode cX2_reads 121 = .ok (.bipush 6, 2) := by decide +kernel
theorem dX2_reads_123 : decode cX2_reads 123 = .ok (.bipush 6, 2) := by decide +kernel
theorem dX2_reads_125 : decode cX2_reads 125 = .ok (.invokevirtual 39, 3) := by decide +kernel
theorem dX2_reads_128 : decode cX2_reads 128 = .ok (.ireturn, 1) := by decide +kernel
theorem dX2_reads_129 : decode cX2_reads 129 = .ok (.aload_n 0, 1) := by decide +kernel
theorem dX2_reads_130 : decode cX2_reads 130 = .ok (.iload_n 1, 1) := by decide +kernel
theorem dX2_reads_131 : decode cX2_reads 131 = .ok (.invokevirtual 55, 3) := by decide +kernel
theorem dX2_reads_134 : decode cX2_reads 134 = .ok (.ireturn, 1) := by decide +kernel
theorem dX2_reads_135 : decode cX2_reads 135 = .ok (.aload_n 0, 1) := by decide +kernel
theorem dX2_reads_136 : decode cX2_reads 136 = .ok (.iload_n 1, 1) := by decide +kernel
theorem dX2_reads_137 : decode cX2_reads 137 = .ok (.invokevirtual 58, 3) := by decide +kernel
theorem dX2_reads_140 : decode cX2_reads 140 = .ok (.ireturn, 1) := by decide +kernel
theorem dX2_reads_141 : decode cX2_reads 141 = .ok (.aload_n 0, 1) := by decide +kernel
theorem dX2_reads_142 : decode cX2_reads 142 = .ok (.iload_n 1, 1) := by decide +kernel
theorem dX2_reads_143 : decode cX2_reads 143 = .ok (.invokevirtual 61, 3) := by decide +kernel
theorem dX2_reads_146 : decode cX2_reads 146 = .ok (.ireturn, 1) := by decide +kernel
theorem dX2_hasWeekday_0 : decode cX2_hasWeekday 0 = .ok (.aload_n 0, 1) := by decide +kernel
theorem dX2_hasWeekday_1 : decode cX2_hasWeekday 1 = .ok (.getfield 15, 3) := by decide +kernel
theorem dX2_hasWeekday_4 : decode cX2_hasWeekday 4 = .ok (.iconst 1, 1) := by decide +kernel
theorem dX2_hasWeekday_5 : decode cX2_hasWeekday 5 = .ok (.if_icmp .eq 11, 3) := by decide +kernel
theorem dX2_hasWeekday_8 : decode cX2_hasWeekday 8 = .ok (.aload_n 0, 1) := by decide +kernel
theorem dX2_hasWeekday_9 : decode cX2_hasWeekday 9 = .ok (.getfield 15, 3) := by decide +kernel
theorem dX2_hasWeekday_12 : decode cX2_hasWeekday 12 = .ok (.iconst 2, 1) := by decide +kernel
theorem dX2_hasWeekday_13 : decode cX2_hasWeekday 13 = .ok (.if_icmp .ne 7, 3) := by decide +kernel
theorem dX2_hasWeekday_16 : decode cX2_hasWeekday 16 = .ok (.iconst 1, 1) := by decide +kernel
theorem dX2_hasWeekday_17 : decode cX2_hasWeekday 17 = .ok (.goto 4, 3) := by decide +kernel
theorem dX2_hasWeekday_20 : decode cX2_hasWeekday 20 = .ok (.iconst 0, 1) := by decide +kernel
theorem dX2_hasWeekday_21 : decode cX2_hasWeekday 21 = .ok (.ireturn, 1) := by decide +kernel
theorem dX2_isDigit_0 : decode cX2_isDigit 0 = .ok (.iload_n 0, 1) := by decide +kernel
theorem dX2_isDigit_1 : decode cX2_isDigit 1 = .ok (.bipush 48, 2) := by decide +kernel
theorem dX2_isDigit_3 : decode cX2_isDigit 3 = .ok (.if_icmp .lt 13, 3) := by decide +kernel
theorem dX2_isDigit_6 : decode cX2_isDigit 6 = .ok (.iload_n 0, 1) := by decide +kernel
theorem dX2_isDigit_7 : decode cX2_isDigit 7 = .ok (.bipush 57, 2) := by decide +kernel
theorem dX2_isDigit_9 : decode cX2_isDigit 9 = .ok (.if_icmp .gt 7, 3) := by decide +kernel
theorem dX2_isDigit_12 : decode cX2_isDigit 12 = .ok (.iconst 1, 1) := by decide +kernel
theorem dX2_isDigit_13 : decode cX2_isDigit 13 = .ok (.goto 4, 3) := by decide +kernel
theorem dX2_isDigit_16 : decode cX2_isDigit 16 = .ok (.iconst 0, 1) := by decide +kernel
theorem dX2_isDigit_17 : decode cX2_isDigit 17 = .ok (.ireturn, 1) := by decide +kernel
theorem dX2_readsRule_0 : decode cX2_readsRule 0 = .ok (.iload_n 1, 1) := by decide +kernel
theorem dX2_readsRule_1 : decode cX2_readsRule 1 = .ok (.lookupswitch 75 #[(97, 67), (100, 43), (109, 59), (119, 51)], 43) := by decide +kernel
theorem dX2_readsRule_44 : decode cX2_readsRule 44 = .ok (.aload_n 0, 1) := by decide +kernel
theorem dX2_readsRule_45 : decode cX2_readsRule 45 = .ok (.iconst 0, 1) := by decide +kernel
theorem dX2_readsRule_46 : decode cX2_readsRule 46 = .ok (.putfield 15, 3) := by decide +kernel
theorem dX2_readsRule_49 : decode cX2_readsRule 49 = .ok (.goto 29, 3) := by decide +kernel
theorem dX2_readsRule_52 : decode cX2_readsRule 52 = .ok (.aload_n 0, 1) := by decide +kernel
theorem dX2_readsRule_53 : decode cX2_readsRule 53 = .ok (.iconst 1, 1) := by decide +kernel
theorem dX2_readsRule_54 : decode cX2_readsRule 54 = .ok (.putfield 15, 3) := by decide +kernel
theorem dX2_readsRule_57 : decode cX2_readsRule 57 = .ok (.goto 21, 3) := by decide +kernel
theorem dX2_readsRule_60 : decode cX2_readsRule 60 = .ok (.aload_n 0, 1) := by decide +kernel
theorem dX2_readsRule_61 : decode cX2_readsRule 61 = .ok (.iconst 2, 1) := by decide +kernel
theorem dX2_readsRule_62 : decode cX2_readsRule 62 = .ok (.putfield 15, 3) := by decide +kernel
theorem dX2_readsRule_65 : decode cX2_readsRule 65 = .ok (.goto 13, 3) := by decide +kernel
theorem dX2_readsRule_68 : decode cX2_readsRule 68 = .ok (.aload_n 0, 1) := by decide +kernel
theorem dX2_readsRule_69 : decode cX2_readsRule 69 = .ok (.iconst 3, 1) := by decide +kernel
theorem dX2_readsRule_70 : decode cX2_readsRule 70 = .ok (.putfield 15, 3) := by decide +kernel
theorem dX2_readsRule_73 : decode cX2_readsRule 73 = .ok (.goto 5, 3) := by decide +kernel
theorem dX2_readsRule_76 : decode cX2_readsRule 76 = .ok (.iconst 0, 1) := by decide +kernel
theorem dX2_readsRule_77 : decode cX2_readsRule 77 = .ok (.ireturn, 1) := by decide +kernel
theorem dX2_readsRule_78 : decode cX2_readsRule 78 = .ok (.aload_n 0, 1) := by decide +kernel
theorem dX2_readsRule_79 : decode cX2_readsRule 79 = .ok (.aload_n 0, 1) := by decide +kernel
theorem dX2_readsRule_80 : decode cX2_readsRule 80 = .ok (.getfield 15, 3) := by decide +kernel
theorem dX2_readsRule_83 : decode cX2_readsRule 83 = .ok (.iconst 3, 1) := by decide +kernel
theorem dX2_readsRule_84 : decode cX2_readsRule 84 = .ok (.if_icmp .ne 7, 3) := by decide +kernel
theorem dX2_readsRule_87 : decode cX2_readsRule 87 = .ok (.iconst 1, 1) := by decide +kernel
theorem dX2_readsRule_88 : decode cX2_readsRule 88 = .ok (.goto 4, 3) := by decide +kernel
theorem dX2_readsRule_91 : decode cX2_readsRule 91 = .ok (.iconst 3, 1) := by decide +kernel
theorem dX2_readsRule_92 : decode cX2_readsRule 92 = .ok (.putfield 11, 3) := by decide +kernel
theorem dX2_readsRule_95 : decode cX2_readsRule 95 = .ok (.iconst 1, 1) := by decide +kernel
theorem dX2_readsRule_96 : decode cX2_readsRule 96 = .ok (.ireturn, 1) := by decide +kernel
theorem dX2_readsOther_0 : decode cX2_readsOther 0 = .ok (.iload_n 1, 1) := by decide +kernel
theorem dX2_readsOther_1 : decode cX2_readsOther 1 = .ok (.bipush 48, 2) := by decide +kernel
theorem dX2_readsOther_3 : decode cX2_readsOther 3 = .ok (.if_icmp .lt 11, 3) := by decide +kernel
theorem dX2_readsOther_6 : decode cX2_readsOther 6 = .ok (.iload_n 1, 1) := by decide +kernel
theorem dX2_readsOther_7 : decode cX2_readsOther 7 = .ok (.bipush 48, 2) := by decide +kernel
theorem dX2_readsOther_9 : decode cX2_readsOther 9 = .ok (.iload_n 2, 1) := by decide +kernel
theorem dX2_readsOther_10 : decode cX2_readsOther 10 = .ok (.iadd, 1) := by decide +kernel
theorem dX2_readsOther_11 : decode cX2_readsOther 11 = .ok (.if_icmp .le 5, 3) := by decide +kernel
theorem dX2_readsOther_14 : decode cX2_readsOther 14 = .ok (.iconst 0, 1) := by decide +kernel
theorem dX2_readsOther_15 : decode cX2_readsOther 15 = .ok (.ireturn, 1) := by decide +kernel
theorem dX2_readsOther_16 : decode cX2_readsOther 16 = .ok (.aload_n 0, 1) := by decide +kernel
theorem dX2_readsOther_17 : decode cX2_readsOther 17 = .ok (.iload_n 1, 1) := by decide +kernel
theorem dX2_readsOther_18 : decode cX2_readsOther 18 = .ok (.bipush 48, 2) := by decide +kernel
theorem dX2_readsOther_20 : decode cX2_readsOther 20 = .ok (.isub, 1) := by decide +kernel
theorem dX2_readsOther_21 : decode cX2_readsOther 21 = .ok (.putfield 25, 3) := by decide +kernel
theorem dX2_readsOther_24 : decode cX2_readsOther 24 = .ok (.aload_n 0, 1) := by decide +kernel
theorem dX2_readsOther_25 : decode cX2_readsOther 25 = .ok (.iload_n 3, 1) := by decide +kernel
theorem dX2_readsOther_26 : decode cX2_readsOther 26 = .ok (.putfield 11, 3) := by decide +kernel
theorem dX2_readsOther_29 : decode cX2_readsOther 29 = .ok (.iconst 1, 1) := by decide +kernel
theorem dX2_readsOther_30 : decode cX2_readsOther 30 = .ok (.ireturn, 1) := by decide +kernel
theorem dX2_readsSign_0 : decode cX2_readsSign 0 = .ok (.iload_n 1, 1) := by decide +kernel
theorem dX2_readsSign_1 : decode cX2_readsSign 1 = .ok (.bipush 43, 2) := by decide +kernel
theorem dX2_readsSign_3 : decode cX2_readsSign 3 = .ok (.if_icmp .eq 11, 3) := by decide +kernel
theorem dX2_readsSign_6 : decode cX2_readsSign 6 = .ok (.iload_n 1, 1) := by decide +kernel
theorem dX2_readsSign_7 : decode cX2_readsSign 7 = .ok (.bipush 45, 2) := by decide +kernel
theorem dX2_readsSign_9 : decode cX2_readsSign 9 = .ok (.if_icmp .eq 5, 3) := by decide +kernel
theorem dX2_readsSign_12 : decode cX2_readsSign 12 = .ok (.iconst 0, 1) := by decide +kernel
theorem dX2_readsSign_13 : decode cX2_readsSign 13 = .ok (.ireturn, 1) := by decide +kernel
theorem dX2_readsSign_14 : decode cX2_readsSign 14 = .ok (.aload_n 0, 1) := by decide +kernel
theorem dX2_readsSign_15 : decode cX2_readsSign 15 = .ok (.iload_n 1, 1) := by decide +kernel
theorem dX2_readsSign_16 : decode cX2_readsSign 16 = .ok (.bipush 45, 2) := by decide +kernel
theorem dX2_readsSign_18 : decode cX2_readsSign 18 = .ok (.if_icmp .ne 7, 3) := by decide +kernel
theorem dX2_readsSign_21 : decode cX2_readsSign 21 = .ok (.iconst 1, 1) := by decide +kernel
theorem dX2_readsSign_22 : decode cX2_readsSign 22 = .ok (.goto 4, 3) := by decide +kernel
theorem dX2_readsSign_25 : decode cX2_readsSign 25 = .ok (.iconst 0, 1) := by decide +kernel
theorem dX2_readsSign_26 : decode cX2_readsSign 26 = .ok (.putfield 21, 3) := by decide +kernel
theorem dX2_readsSign_29 : decode cX2_readsSign 29 = .ok (.aload_n 0, 1) := by decide +kernel
theorem dX2_readsSign_30 : decode cX2_readsSign 30 = .ok (.iconst 3, 1) := by decide +kernel
theorem dX2_readsSign_31 : decode cX2_readsSign 31 = .ok (.putfield 11, 3) := by decide +kernel
theorem dX2_readsSign_34 : decode cX2_readsSign 34 = .ok (.iconst 1, 1) := by decide +kernel
theorem dX2_readsSign_35 : decode cX2_readsSign 35 = .ok (.ireturn, 1) := by decide +kernel
theorem dX2_readsFirstDigit_0 : decode cX2_readsFirstDigit 0 = .ok (.iload_n 1, 1) := by decide +kernel
theorem dX2_readsFirstDigit_1 : decode cX2_readsFirstDigit 1 = .ok (.invokestatic 64, 3) := by decide +kernel
theorem dX2_readsFirstDigit_4 : decode cX2_readsFirstDigit 4 = .ok (.ifCond .ne 5, 3) := by decide +kernel
theorem dX2_readsFirstDigit_7 : decode cX2_readsFirstDigit 7 = .ok (.iconst 0, 1) := by decide +kernel
theorem dX2_readsFirstDigit_8 : decode cX2_readsFirstDigit 8 = .ok (.ireturn, 1) := by decide +kernel
theorem dX2_readsFirstDigit_9 : decode cX2_readsFirstDigit 9 = .ok (.aload_n 0, 1) := by decide +kernel
theorem dX2_readsFirstDigit_10 : decode cX2_readsFirstDigit 10 = .ok (.iload_n 1, 1) := by decide +kernel
theorem dX2_readsFirstDigit_11 : decode cX2_readsFirstDigit 11 = .ok (.bipush 48, 2) := by decide +kernel
theorem dX2_readsFirstDigit_13 : decode cX2_readsFirstDigit 13 = .ok (.isub, 1) := by decide +kernel
theorem dX2_readsFirstDigit_14 : decode cX2_readsFirstDigit 14 = .ok (.putfield 18, 3) := by decide +kernel
theorem dX2_readsFirstDigit_17 : decode cX2_readsFirstDigit 17 = .ok (.aload_n 0, 1) := by decide +kernel
theorem dX2_readsFirstDigit_18 : decode cX2_readsFirstDigit 18 = .ok (.iconst 4, 1) := by decide +kernel
theorem dX2_readsFirstDigit_19 : decode cX2_readsFirstDigit 19 = .ok (.putfield 11, 3) := by decide +kernel
theorem dX2_readsFirstDigit_22 : decode cX2_readsFirstDigit 22 = .ok (.iconst 1, 1) := by decide +kernel
theorem dX2_readsFirstDigit_23 : decode cX2_readsFirstDigit 23 = .ok (.ireturn, 1) := by decide +kernel
theorem dX2_readsNextDigit_0 : decode cX2_readsNextDigit 0 = .ok (.aload_n 0, 1) := by decide +kernel
theorem dX2_readsNextDigit_1 : decode cX2_readsNextDigit 1 = .ok (.getfield 18, 3) := by decide +kernel
theorem dX2_readsNextDigit_4 : decode cX2_readsNextDigit 4 = .ok (.bipush 10, 2) := by decide +kernel
theorem dX2_readsNextDigit_6 : decode cX2_readsNextDigit 6 = .ok (.imul, 1) := by decide +kernel
theorem dX2_readsNextDigit_7 : decode cX2_readsNextDigit 7 = .ok (.iload_n 1, 1) := by decide +kernel
theorem dX2_readsNextDigit_8 : decode cX2_readsNextDigit 8 = .ok (.iadd, 1) := by decide +kernel
theorem dX2_readsNextDigit_9 : decode cX2_readsNextDigit 9 = .ok (.bipush 48, 2) := by decide +kernel
theorem dX2_readsNextDigit_11 : decode cX2_readsNextDigit 11 = .ok (.isub, 1) := by decide +kernel
theorem dX2_readsNextDigit_12 : decode cX2_readsNextDigit 12 = .ok (.istore_n 2, 1) := by decide +kernel
theorem dX2_readsNextDigit_13 : decode cX2_readsNextDigit 13 = .ok (.aload_n 0, 1) := by decide +kernel
theorem dX2_readsNextDigit_14 : decode cX2_readsNextDigit 14 = .ok (.getfield 15, 3) := by decide +kernel
theorem dX2_readsNextDigit_17 : decode cX2_readsNextDigit 17 = .ok (.iconst 3, 1) := by decide +kernel
theorem dX2_readsNextDigit_18 : decode cX2_readsNextDigit 18 = .ok (.if_icmp .ne 8, 3) := by decide +kernel
theorem dX2_readsNextDigit_21 : decode cX2_readsNextDigit 21 = .ok (.bipush 90, 2) := by decide +kernel
theorem dX2_readsNextDigit_23 : decode cX2_readsNextDigit 23 = .ok (.goto 6, 3) := by decide +kernel
theorem dX2_readsNextDigit_26 : decode cX2_readsNextDigit 26 = .ok (.sipush 365, 3) := by decide +kernel
theorem dX2_readsNextDigit_29 : decode cX2_readsNextDigit 29 = .ok (.istore_n 3, 1) := by decide +kernel
theorem dX2_readsNextDigit_30 : decode cX2_readsNextDigit 30 = .ok (.iload_n 1, 1) := by decide +kernel
theorem dX2_readsNextDigit_31 : decode cX2_readsNextDigit 31 = .ok (.invokestatic 64, 3) := by decide +kernel
theorem dX2_readsNextDigit_34 : decode cX2_readsNextDigit 34 = .ok (.ifCond .eq 15, 3) := by decide +kernel
theorem dX2_readsNextDigit_37 : decode cX2_readsNextDigit 37 = .ok (.aload_n 0, 1) := by decide +kernel
theorem dX2_readsNextDigit_38 : decode cX2_readsNextDigit 38 = .ok (.getfield 18, 3) := by decide +kernel
theorem dX2_readsNextDigit_41 : decode cX2_readsNextDigit 41 = .ok (.ifCond .eq 8, 3) := by decide +kernel
theorem dX2_readsNextDigit_44 : decode cX2_readsNextDigit 44 = .ok (.iload_n 2, 1) := by decide +kernel
theorem dX2_readsNextDigit_45 : decode cX2_readsNextDigit 45 = .ok (.iload_n 3, 1) := by decide +kernel
theorem dX2_readsNextDigit_46 : decode cX2_readsNextDigit 46 = .ok (.if_icmp .le 5, 3) := by decide +kernel
theorem dX2_readsNextDigit_49 : decode cX2_readsNextDigit 49 = .ok (.iconst 0, 1) := by decide +kernel
theorem dX2_readsNextDigit_50 : decode cX2_readsNextDigit 50 = .ok (.ireturn, 1) := by decide +kernel
theorem dX2_readsNextDigit_51 : decode cX2_readsNextDigit 51 = .ok (.aload_n 0, 1) := by decide +kernel
theorem dX2_readsNextDigit_52 : decode cX2_readsNextDigit 52 = .ok (.iload_n 2, 1) := by decide +kernel
theorem dX2_readsNextDigit_53 : decode cX2_readsNextDigit 53 = .ok (.putfield 18, 3) := by decide +kernel
theorem dX2_readsNextDigit_56 : decode cX2_readsNextDigit 56 = .ok (.iconst 1, 1) := by decide +kernel
theorem dX2_readsNextDigit_57 : decode cX2_readsNextDigit 57 = .ok (.ireturn, 1) := by decide +kernel
theorem dX2_readsComma_0 : decode cX2_readsComma 0 = .ok (.iload_n 1, 1) := by decide +kernel
theorem dX2_readsComma_1 : decode cX2_readsComma 1 = .ok (.bipush 44, 2) := by decide +kernel
theorem dX2_readsComma_3 : decode cX2_readsComma 3 = .ok (.if_icmp .eq 5, 3) := by decide +kernel
theorem dX2_readsComma_6 : decode cX2_readsComma 6 = .ok (.iconst 0, 1) := by decide +kernel
theorem dX2_readsComma_7 : decode cX2_readsComma 7 = .ok (.ireturn, 1) := by decide +kernel
theorem dX2_readsComma_8 : decode cX2_readsComma 8 = .ok (.aload_n 0, 1) := by decide +kernel
theorem dX2_readsComma_9 : decode cX2_readsComma 9 = .ok (.iconst 5, 1) := by decide +kernel
theorem dX2_readsComma_10 : decode cX2_readsComma 10 = .ok (.putfield 11, 3) := by decide +kernel
theorem dX2_readsComma_13 : decode cX2_readsComma 13 = .ok (.iconst 1, 1) := by decide +kernel
theorem dX2_readsComma_14 : decode cX2_readsComma 14 = .ok (.ireturn, 1) := by decide +kernel
theorem dX2_readsBehindRule_0 : decode cX2_readsBehindRule 0 = .ok (.iload_n 1, 1) := by decide +kernel
theorem dX2_readsBehindRule_1 : decode cX2_readsBehindRule 1 = .ok (.bipush 94, 2) := by decide +kernel
theorem dX2_readsBehindRule_3 : decode cX2_readsBehindRule 3 = .ok (.if_icmp .eq 9, 3) := by decide +kernel
theorem dX2_readsBehindRule_6 : decode cX2_readsBehindRule 6 = .ok (.aload_n 0, 1) := by decide +kernel
theorem dX2_readsBehindRule_7 : decode cX2_readsBehindRule 7 = .ok (.iload_n 1, 1) := by decide +kernel
theorem dX2_readsBehindRule_8 : decode cX2_readsBehindRule 8 = .ok (.invokevirtual 61, 3) := by decide +kernel
theorem dX2_readsBehindRule_11 : decode cX2_readsBehindRule 11 = .ok (.ireturn, 1) := by decide +kernel
theorem dX2_readsBehindRule_12 : decode cX2_readsBehindRule 12 = .ok (.aload_n 0, 1) := by decide +kernel
theorem dX2_readsBehindRule_13 : decode cX2_readsBehindRule 13 = .ok (.bipush 7, 2) := by decide +kernel
theorem dX2_readsBehindRule_15 : decode cX2_readsBehindRule 15 = .ok (.putfield 11, 3) := by decide +kernel
theorem dX2_readsBehindRule_18 : decode cX2_readsBehindRule 18 = .ok (.iconst 1, 1) := by decide +kernel
theorem dX2_readsBehindRule_19 : decode cX2_readsBehindRule 19 = .ok (.ireturn, 1) := by decide +kernel
theorem dX2_readsRank_0 : decode cX2_readsRank 0 = .ok (.iload_n 1, 1) := by decide +kernel
theorem dX2_readsRank_1 : decode cX2_readsRank 1 = .ok (.invokestatic 64, 3) := by decide +kernel
theorem dX2_readsRank_4 : decode cX2_readsRank 4 = .ok (.ifCond .ne 5, 3) := by decide +kernel
theorem dX2_readsRank_7 : decode cX2_readsRank 7 = .ok (.iconst 0, 1) := by decide +kernel
theorem dX2_readsRank_8 : decode cX2_readsRank 8 = .ok (.ireturn, 1) := by decide +kernel
theorem dX2_readsRank_9 : decode cX2_readsRank 9 = .ok (.aload_n 0, 1) := by decide +kernel
theorem dX2_readsRank_10 : decode cX2_readsRank 10 = .ok (.iload_n 1, 1) := by decide +kernel
theorem dX2_readsRank_11 : decode cX2_readsRank 11 = .ok (.bipush 48, 2) := by decide +kernel
theorem dX2_readsRank_13 : decode cX2_readsRank 13 = .ok (.isub, 1) := by decide +kernel
theorem dX2_readsRank_14 : decode cX2_readsRank 14 = .ok (.putfield 28, 3) := by decide +kernel
theorem dX2_readsRank_17 : decode cX2_readsRank 17 = .ok (.aload_n 0, 1) := by decide +kernel
theorem dX2_readsRank_18 : decode cX2_readsRank 18 = .ok (.bipush 8, 2) := by decide +kernel
theorem dX2_readsRank_20 : decode cX2_readsRank 20 = .ok (.putfield 11, 3) := by decide +kernel
theorem dX2_readsRank_23 : decode cX2_readsRank 23 = .ok (.iconst 1, 1) := by decide +kernel
theorem dX2_readsRank_24 : decode cX2_readsRank 24 = .ok (.ireturn, 1) := by decide +kernel
theorem dX2_readsSeparator_0 : decode cX2_readsSeparator 0 = .ok (.iload_n 1, 1) := by decide +kernel
theorem dX2_readsSeparator_1 : decode cX2_readsSeparator 1 = .ok (.bipush 59, 2) := by decide +kernel
theorem dX2_readsSeparator_3 : decode cX2_readsSeparator 3 = .ok (.if_icmp .eq 5, 3) := by decide +kernel
theorem dX2_readsSeparator_6 : decode cX2_readsSeparator 6 = .ok (.iconst 0, 1) := by decide +kernel
theorem dX2_readsSeparator_7 : decode cX2_readsSeparator 7 = .ok (.ireturn, 1) := by decide +kernel
theorem dX2_readsSeparator_8 : decode cX2_readsSeparator 8 = .ok (.aload_n 0, 1) := by decide +kernel
theorem dX2_readsSeparator_9 : decode cX2_readsSeparator 9 = .ok (.invokevirtual 67, 3) := by decide +kernel
theorem dX2_readsSeparator_12 : decode cX2_readsSeparator 12 = .ok (.iconst 1, 1) := by decide +kernel
theorem dX2_readsSeparator_13 : decode cX2_readsSeparator 13 = .ok (.ireturn, 1) := by decide +kernel
theorem dX3_init_0 : decode cX3_init 0 = .ok (.aload_n 0, 1) := by decide +kernel
theorem dX3_init_1 : decode cX3_init 1 = .ok (.invokespecial 3, 3) := by decide +kernel
theorem dX3_init_4 : decode cX3_init 4 = .ok (.aload_n 0, 1) := by decide +kernel
theorem dX3_init_5 : decode cX3_init 5 = .ok (.new 9, 3) := by decide +kernel
theorem dX3_init_8 : decode cX3_init 8 = .ok (.dup, 1) := by decide +kernel
theorem dX3_init_9 : decode cX3_init 9 = .ok (.bipush 10, 2) := by decide +kernel
theorem dX3_init_11 : decode cX3_init 11 = .ok (.invokespecial 11, 3) := by decide +kernel
theorem dX3_init_14 : decode cX3_init 14 = .ok (.putfield 14, 3) := by decide +kernel
theorem dX3_init_17 : decode cX3_init 17 = .ok (.aload_n 0, 1) := by decide +kernel
theorem dX3_init_18 : decode cX3_init 18 = .ok (.new 9, 3) := by decide +kernel
theorem dX3_init_21 : decode cX3_init 21 = .ok (.dup, 1) := by decide +kernel
theorem dX3_init_22 : decode cX3_init 22 = .ok (.bipush 10, 2) := by decide +kernel
theorem dX3_init_24 : decode cX3_init 24 = .ok (.invokespecial 11, 3) := by decide +kernel
theorem dX3_init_27 : decode cX3_init 27 = .ok (.putfield 20, 3) := by decide +kernel
theorem dX3_init_30 : decode cX3_init 30 = .ok (.return_, 1) := by decide +kernel
theorem dX3_reckon_0 : decode cX3_reckon 0 = .ok (.aload_n 0, 1) := by decide +kernel
theorem dX3_reckon_1 : decode cX3_reckon 1 = .ok (.iload_n 2, 1) := by decide +kernel
theorem dX3_reckon_2 : decode cX3_reckon 2 = .ok (.invokestatic 23, 3) := by decide +kernel
theorem dX3_reckon_5 : decode cX3_reckon 5 = .ok (.putfield 27, 3) := by decide +kernel
theorem dX3_reckon_8 : decode cX3_reckon 8 = .ok (.aload_n 0, 1) := by decide +kernel
theorem dX3_reckon_9 : decode cX3_reckon 9 = .ok (.iload_n 2, 1) := by decide +kernel
theorem dX3_reckon_10 : decode cX3_reckon 10 = .ok (.invokestatic 31, 3) := by decide +kernel
theorem dX3_reckon_13 : decode cX3_reckon 13 = .ok (.putfield 34, 3) := by decide +kernel
theorem dX3_reckon_16 : decode cX3_reckon 16 = .ok (.aload_n 0, 1) := by decide +kernel
theorem dX3_reckon_17 : decode cX3_reckon 17 = .ok (.iload_n 2, 1) := by decide +kernel
theorem dX3_reckon_18 : decode cX3_reckon 18 = .ok (.iload_n 3, 1) := by decide +kernel
theorem dX3_reckon_19 : decode cX3_reckon 19 = .ok (.aload_n 1, 1) := by decide +kernel
theorem dX3_reckon_20 : decode cX3_reckon 20 = .ok (.getfield 37, 3) := by decide +kernel
theorem dX3_reckon_23 : decode cX3_reckon 23 = .ok (.invokestatic 42, 3) := by decide +kernel
theorem dX3_reckon_26 : decode cX3_reckon 26 = .ok (.putfield 46, 3) := by decide +kernel
theorem dX3_reckon_29 : decode cX3_reckon 29 = .ok (.iconst 0, 1) := by decide +kernel
theorem dX3_reckon_30 : decode cX3_reckon 30 = .ok (.istore 4, 2) := by decide +kernel
theorem dX3_reckon_32 : decode cX3_reckon 32 = .ok (.iload 4, 2) := by decide +kernel
theorem dX3_reckon_34 : decode cX3_reckon 34 = .ok (.aload_n 1, 1) := by decide +kernel
theorem dX3_reckon_35 : decode cX3_reckon 35 = .ok (.getfield 49, 3) := by decide +kernel
theorem dX3_reckon_38 : decode cX3_reckon 38 = .ok (.if_icmp .ge 29, 3) := by decide +kernel
theorem dX3_reckon_41 : decode cX3_reckon 41 = .ok (.aload_n 0, 1) := by decide +kernel
theorem dX3_reckon_42 : decode cX3_reckon 42 = .ok (.getfield 14, 3) := by decide +kernel
theorem dX3_reckon_45 : decode cX3_reckon 45 = .ok (.iload 4, 2) := by decide +kernel
theorem dX3_reckon_47 : decode cX3_reckon 47 = .ok (.aload_n 0, 1) := by decide +kernel
theorem dX3_reckon_48 : decode cX3_reckon 48 = .ok (.aload_n 0, 1) := by decide +kernel
theorem dX3_reckon_49 : decode cX3_reckon 49 = .ok (.aload_n 1, 1) := by decide +kernel
theorem dX3_reckon_50 : decode cX3_reckon 50 = .ok (.iload 4, 2) := by decide +kernel
theorem dX3_reckon_52 : decode cX3_reckon 52 = .ok (.invokevirtual 52, 3) := by decide +kernel
theorem dX3_reckon_55 : decode cX3_reckon 55 = .ok (.invokevirtual 56, 3) := by decide +kernel
theorem dX3_reckon_58 : decode cX3_reckon 58 = .ok (.invokevirtual 59, 3) := by decide +kernel
theorem dX3_reckon_61 : decode cX3_reckon 61 = .ok (.iinc 4 1, 3) := by decide +kernel
theorem dX3_reckon_64 : decode cX3_reckon 64 = .ok (.goto (-32), 3) := by decide +kernel
theorem dX3_reckon_67 : decode cX3_reckon 67 = .ok (.aload_n 0, 1) := by decide +kernel
theorem dX3_reckon_68 : decode cX3_reckon 68 = .ok (.getfield 20, 3) := by decide +kernel
theorem dX3_reckon_71 : decode cX3_reckon 71 = .ok (.invokevirtual 63, 3) := by decide +kernel
theorem dX3_reckon_74 : decode cX3_reckon 74 = .ok (.bipush 9, 2) := by decide +kernel
theorem dX3_reckon_76 : decode cX3_reckon 76 = .ok (.istore 4, 2) := by decide +kernel
theorem dX3_reckon_78 : decode cX3_reckon 78 = .ok (.iload 4, 2) := by decide +kernel
theorem dX3_reckon_80 : decode cX3_reckon 80 = .ok (.ifCond .lt 16, 3) := by decide +kernel
theorem dX3_reckon_83 : decode cX3_reckon 83 = .ok (.aload_n 0, 1) := by decide +kernel
theorem dX3_reckon_84 : decode cX3_reckon 84 = .ok (.aload_n 1, 1) := by decide +kernel
theorem dX3_reckon_85 : decode cX3_reckon 85 = .ok (.iload 4, 2) := by decide +kernel
theorem dX3_reckon_87 : decode cX3_reckon 87 = .ok (.invokevirtual 66, 3) := by decide +kernel
theorem dX3_reckon_90 : decode cX3_reckon 90 = .ok (.iinc 4 (-1), 3) := by decide +kernel
theorem dX3_reckon_93 : decode cX3_reckon 93 = .ok (.goto (-15), 3) := by decide +kernel
theorem dX3_reckon_96 : decode cX3_reckon 96 = .ok (.return_, 1) := by decide +kernel
theorem dX3_movedCount_0 : decode cX3_movedCount 0 = .ok (.iconst 0, 1) := by decide +kernel
theorem dX3_movedCount_1 : decode cX3_movedCount 1 = .ok (.istore_n 2, 1) := by decide +kernel
theorem dX3_movedCount_2 : decode cX3_movedCount 2 = .ok (.iconst 0, 1) := by decide +kernel
theorem dX3_movedCount_3 : decode cX3_movedCount 3 = .ok (.istore_n 3, 1) := by decide +kernel
theorem dX3_movedCount_4 : decode cX3_movedCount 4 = .ok (.iload_n 3, 1) := by decide +kernel
theorem dX3_movedCount_5 : decode cX3_movedCount 5 = .ok (.iload_n 1, 1) := by decide +kernel
theorem dX3_movedCount_6 : decode cX3_movedCount 6 = .ok (.if_icmp .ge 41, 3) := by decide +kernel
theorem dX3_movedCount_9 : decode cX3_movedCount 9 = .ok (.aload_n 0, 1) := by decide +kernel
theorem dX3_movedCount_10 : decode cX3_movedCount 10 = .ok (.getfield 20, 3) := by decide +kernel
theorem dX3_movedCount_13 : decode cX3_movedCount 13 = .ok (.iload_n 3, 1) := by decide +kernel
theorem dX3_movedCount_14 : decode cX3_movedCount 14 = .ok (.invokevirtual 70, 3) := by decide +kernel
theorem dX3_movedCount_17 : decode cX3_movedCount 17 = .ok (.istore 4, 2) := by decide +kernel
theorem dX3_movedCount_19 : decode cX3_movedCount 19 = .ok (.iload 4, 2) := by decide +kernel
theorem dX3_movedCount_21 : decode cX3_movedCount 21 = .ok (.iconst (-1), 1) := by decide +kernel
theorem dX3_movedCount_22 : decode cX3_movedCount 22 = .ok (.if_icmp .eq 19, 3) := by decide +kernel
theorem dX3_movedCount_25 : decode cX3_movedCount 25 = .ok (.iload 4, 2) := by decide +kernel
theorem dX3_movedCount_27 : decode cX3_movedCount 27 = .ok (.aload_n 0, 1) := by decide +kernel
theorem dX3_movedCount_28 : decode cX3_movedCount 28 = .ok (.getfield 14, 3) := by decide +kernel
theorem dX3_movedCount_31 : decode cX3_movedCount 31 = .ok (.iload_n 3, 1) := by decide +kernel
theorem dX3_movedCount_32 : decode cX3_movedCount 32 = .ok (.invokevirtual 70, 3) := by decide +kernel
theorem dX3_movedCount_35 : decode cX3_movedCount 35 = .ok (.if_icmp .eq 6, 3) := by decide +kernel
theorem dX3_movedCount_38 : decode cX3_movedCount 38 = .ok (.iinc 2 1, 3) := by decide +kernel
theorem dX3_movedCount_41 : decode cX3_movedCount 41 = .ok (.iinc 3 1, 3) := by decide +kernel
theorem dX3_movedCount_44 : decode cX3_movedCount 44 = .ok (.goto (-40), 3) := by decide +kernel
theorem dX3_movedCount_47 : decode cX3_movedCount 47 = .ok (.iload_n 2, 1) := by decide +kernel
theorem dX3_movedCount_48 : decode cX3_movedCount 48 = .ok (.ireturn, 1) := by decide +kernel
theorem dX3_orNone_0 : decode cX3_orNone 0 = .ok (.iload_n 1, 1) := by decide +kernel
theorem dX3_orNone_1 : decode cX3_orNone 1 = .ok (.ifCond .lt 15, 3) := by decide +kernel
theorem dX3_orNone_4 : decode cX3_orNone 4 = .ok (.iload_n 1, 1) := by decide +kernel
theorem dX3_orNone_5 : decode cX3_orNone 5 = .ok (.aload_n 0, 1) := by decide +kernel
theorem dX3_orNone_6 : decode cX3_orNone 6 = .ok (.getfield 27, 3) := by decide +kernel
theorem dX3_orNone_9 : decode cX3_orNone 9 = .ok (.if_icmp .ge 7, 3) := by decide +kernel
theorem dX3_orNone_12 : decode cX3_orNone 12 = .ok (.iload_n 1, 1) := by decide +kernel
theorem dX3_orNone_13 : decode cX3_orNone 13 = .ok (.goto 4, 3) := by decide +kernel
theorem dX3_orNone_16 : decode cX3_orNone 16 = .ok (.iconst (-1), 1) := by decide +kernel
theorem dX3_orNone_17 : decode cX3_orNone 17 = .ok (.ireturn, 1) := by decide +kernel
theorem dX3_dayByRule_0 : decode cX3_dayByRule 0 = .ok (.aload_n 1, 1) := by decide +kernel
theorem dX3_dayByRule_1 : decode cX3_dayByRule 1 = .ok (.getfield 73, 3) := by decide +kernel
theorem dX3_dayByRule_4 : decode cX3_dayByRule 4 = .ok (.iload_n 2, 1) := by decide +kernel
theorem dX3_dayByRule_5 : decode cX3_dayByRule 5 = .ok (.invokevirtual 70, 3) := by decide +kernel
theorem dX3_dayByRule_8 : decode cX3_dayByRule 8 = .ok (.istore_n 3, 1) := by decide +kernel
theorem dX3_dayByRule_9 : decode cX3_dayByRule 9 = .ok (.aload_n 1, 1) := by decide +kernel
theorem dX3_dayByRule_10 : decode cX3_dayByRule 10 = .ok (.getfield 75, 3) := by decide +kernel
theorem dX3_dayByRule_13 : decode cX3_dayByRule 13 = .ok (.iload_n 2, 1) := by decide +kernel
theorem dX3_dayByRule_14 : decode cX3_dayByRule 14 = .ok (.invokevirtual 70, 3) := by decide +kernel
theorem dX3_dayByRule_17 : decode cX3_dayByRule 17 = .ok (.istore 4, 2) := by decide +kernel
theorem dX3_dayByRule_19 : decode cX3_dayByRule 19 = .ok (.aload_n 1, 1) := by decide +kernel
theorem dX3_dayByRule_20 : decode cX3_dayByRule 20 = .ok (.getfield 78, 3) := by decide +kernel
theorem dX3_dayByRule_23 : decode cX3_dayByRule 23 = .ok (.iload_n 2, 1) := by decide +kernel
theorem dX3_dayByRule_24 : decode cX3_dayByRule 24 = .ok (.invokevirtual 70, 3) := by decide +kernel
theorem dX3_dayByRule_27 : decode cX3_dayByRule 27 = .ok (.tableswitch 43 0 2 #[25, 27, 35], 25) := by decide +kernel
theorem dX3_dayByRule_52 : decode cX3_dayByRule 52 = .ok (.iload_n 3, 1) := by decide +kernel
theorem dX3_dayByRule_53 : decode cX3_dayByRule 53 = .ok (.ireturn, 1) := by decide +kernel
theorem dX3_dayByRule_54 : decode cX3_dayByRule 54 = .ok (.aload_n 0, 1) := by decide +kernel
theorem dX3_dayByRule_55 : decode cX3_dayByRule 55 = .ok (.iload_n 3, 1) := by decide +kernel
theorem dX3_dayByRule_56 : decode cX3_dayByRule 56 = .ok (.iload 4, 2) := by decide +kernel
theorem dX3_dayByRule_58 : decode cX3_dayByRule 58 = .ok (.invokevirtual 81, 3) := by decide +kernel
theorem dX3_dayByRule_61 : decode cX3_dayByRule 61 = .ok (.ireturn, 1) := by decide +kernel
theorem dX3_dayByRule_62 : decode cX3_dayByRule 62 = .ok (.aload_n 0, 1) := by decide +kernel
theorem dX3_dayByRule_63 : decode cX3_dayByRule 63 = .ok (.iload_n 3, 1) := by decide +kernel
theorem dX3_dayByRule_64 : decode cX3_dayByRule 64 = .ok (.iload 4, 2) := by decide +kernel
theorem dX3_dayByRule_66 : decode cX3_dayByRule 66 = .ok (.invokevirtual 85, 3) := by decide +kernel
theorem dX3_dayByRule_69 : decode cX3_dayByRule 69 = .ok (.ireturn, 1) := by decide +kernel
theorem dX3_dayByRule_70 : decode cX3_dayByRule 70 = .ok (.aload_n 0, 1) := by decide +kernel
theorem dX3_dayByRule_71 : decode cX3_dayByRule 71 = .ok (.getfield 14, 3) := by decide +kernel
theorem dX3_dayByRule_74 : decode cX3_dayByRule 74 = .ok (.iload 4, 2) := by decide +kernel
theorem dX3_dayByRule_76 : decode cX3_dayByRule 76 = .ok (.invokevirtual 70, 3) := by decide +kernel
theorem dX3_dayByRule_79 : decode cX3_dayByRule 79 = .ok (.iconst (-1), 1) := by decide +kernel
theorem dX3_dayByRule_80 : decode cX3_dayByRule 80 = .ok (.if_icmp .ne 7, 3) := by decide +kernel
theorem dX3_dayByRule_83 : decode cX3_dayByRule 83 = .ok (.iconst (-1), 1) := by decide +kernel
theorem dX3_dayByRule_84 : decode cX3_dayByRule 84 = .ok (.goto 14, 3) := by decide +kernel
theorem dX3_dayByRule_87 : decode cX3_dayByRule 87 = .ok (.aload_n 0, 1) := by decide +kernel
theorem dX3_dayByRule_88 : decode cX3_dayByRule 88 = .ok (.getfield 14, 3) := by decide +kernel
theorem dX3_dayByRule_91 : decode cX3_dayByRule 91 = .ok (.iload 4, 2) := by decide +kernel
theorem dX3_dayByRule_93 : decode cX3_dayByRule 93 = .ok (.invokevirtual 70, 3) := by decide +kernel
theorem dX3_dayByRule_96 : decode cX3_dayByRule 96 = .ok (.iload_n 3, 1) := by decide +kernel
theorem dX3_dayByRule_97 : decode cX3_dayByRule 97 = .ok (.iadd, 1) := by decide +kernel
theorem dX3_dayByRule_98 : decode cX3_dayByRule 98 = .ok (.ireturn, 1) := by decide +kernel
theorem dX3_weekdayFrom_0 : decode cX3_weekdayFrom 0 = .ok (.aload_n 0, 1) := by decide +kernel
theorem dX3_weekdayFrom_1 : decode cX3_weekdayFrom 1 = .ok (.getfield 34, 3) := by decide +kernel
theorem dX3_weekdayFrom_4 : decode cX3_weekdayFrom 4 = .ok (.iload_n 1, 1) := by decide +kernel
theorem dX3_weekdayFrom_5 : decode cX3_weekdayFrom 5 = .ok (.iadd, 1) := by decide +kernel
theorem dX3_weekdayFrom_6 : decode cX3_weekdayFrom 6 = .ok (.bipush 7, 2) := by decide +kernel
theorem dX3_weekdayFrom_8 : decode cX3_weekdayFrom 8 = .ok (.irem, 1) := by decide +kernel
theorem dX3_weekdayFrom_9 : decode cX3_weekdayFrom 9 = .ok (.istore_n 3, 1) := by decide +kernel
theorem dX3_weekdayFrom_10 : decode cX3_weekdayFrom 10 = .ok (.iload_n 1, 1) := by decide +kernel
theorem dX3_weekdayFrom_11 : decode cX3_weekdayFrom 11 = .ok (.iload_n 2, 1) := by decide +kernel
theorem dX3_weekdayFrom_12 : decode cX3_weekdayFrom 12 = .ok (.bipush 7, 2) := by decide +kernel
theorem dX3_weekdayFrom_14 : decode cX3_weekdayFrom 14 = .ok (.iadd, 1) := by decide +kernel
theorem dX3_weekdayFrom_15 : decode cX3_weekdayFrom 15 = .ok (.iload_n 3, 1) := by decide +kernel
theorem dX3_weekdayFrom_16 : decode cX3_weekdayFrom 16 = .ok (.isub, 1) := by decide +kernel
theorem dX3_weekdayFrom_17 : decode cX3_weekdayFrom 17 = .ok (.bipush 7, 2) := by decide +kernel
theorem dX3_weekdayFrom_19 : decode cX3_weekdayFrom 19 = .ok (.irem, 1) := by decide +kernel
theorem dX3_weekdayFrom_20 : decode cX3_weekdayFrom 20 = .ok (.iadd, 1) := by decide +kernel
theorem dX3_weekdayFrom_21 : decode cX3_weekdayFrom 21 = .ok (.ireturn, 1) := by decide +kernel
theorem dX3_weekdayPastMoon_0 : decode cX3_weekdayPastMoon 0 = .ok (.iload_n 1, 1) := by decide +kernel
theorem dX3_weekdayPastMoon_1 : decode cX3_weekdayPastMoon 1 = .ok (.istore_n 3, 1) := by decide +kernel
theorem dX3_weekdayPastMoon_2 : decode cX3_weekdayPastMoon 2 = .ok (.iload_n 3, 1) := by decide +kernel
theorem dX3_weekdayPastMoon_3 : decode cX3_weekdayPastMoon 3 = .ok (.aload_n 0, 1) := by decide +kernel
theorem dX3_weekdayPastMoon_4 : decode cX3_weekdayPastMoon 4 = .ok (.getfield 27, 3) := by decide +kernel
theorem dX3_weekdayPastMoon_7 : decode cX3_weekdayPastMoon 7 = .ok (.if_icmp .ge 31, 3) := by decide +kernel
theorem dX3_weekdayPastMoon_10 : decode cX3_weekdayPastMoon 10 = .ok (.aload_n 0, 1) := by decide +kernel
theorem dX3_weekdayPastMoon_11 : decode cX3_weekdayPastMoon 11 = .ok (.getfield 46, 3) := by decide +kernel
theorem dX3_weekdayPastMoon_14 : decode cX3_weekdayPastMoon 14 = .ok (.iload_n 3, 1) := by decide +kernel
theorem dX3_weekdayPastMoon_15 : decode cX3_weekdayPastMoon 15 = .ok (.invokestatic 88, 3) := by decide +kernel
theorem dX3_weekdayPastMoon_18 : decode cX3_weekdayPastMoon 18 = .ok (.bipush 14, 2) := by decide +kernel
theorem dX3_weekdayPastMoon_20 : decode cX3_weekdayPastMoon 20 = .ok (.if_icmp .ne 12, 3) := by decide +kernel
theorem dX3_weekdayPastMoon_23 : decode cX3_weekdayPastMoon 23 = .ok (.aload_n 0, 1) := by decide +kernel
theorem dX3_weekdayPastMoon_24 : decode cX3_weekdayPastMoon 24 = .ok (.iload_n 3, 1) := by decide +kernel
theorem dX3_weekdayPastMoon_25 : decode cX3_weekdayPastMoon 25 = .ok (.iconst 1, 1) := by decide +kernel
theorem dX3_weekdayPastMoon_26 : decode cX3_weekdayPastMoon 26 = .ok (.iadd, 1) := by decide +kernel
theorem dX3_weekdayPastMoon_27 : decode cX3_weekdayPastMoon 27 = .ok (.iload_n 2, 1) := by decide +kernel
theorem dX3_weekdayPastMoon_28 : decode cX3_weekdayPastMoon 28 = .ok (.invokevirtual 81, 3) := by decide +kernel
theorem dX3_weekdayPastMoon_31 : decode cX3_weekdayPastMoon 31 = .ok (.ireturn, 1) := by decide +kernel
theorem dX3_weekdayPastMoon_32 : decode cX3_weekdayPastMoon 32 = .ok (.iinc 3 1, 3) := by decide +kernel
theorem dX3_weekdayPastMoon_35 : decode cX3_weekdayPastMoon 35 = .ok (.goto (-33), 3) := by decide +kernel
theorem dX3_weekdayPastMoon_38 : decode cX3_weekdayPastMoon 38 = .ok (.iconst (-1), 1) := by decide +kernel
theorem dX3_weekdayPastMoon_39 : decode cX3_weekdayPastMoon 39 = .ok (.ireturn, 1) := by decide +kernel
theorem dX3_cutNotches_0 : decode cX3_cutNotches 0 = .ok (.iconst 0, 1) := by decide +kernel
theorem dX3_cutNotches_1 : decode cX3_cutNotches 1 = .ok (.istore_n 3, 1) := by decide +kernel
theorem dX3_cutNotches_2 : decode cX3_cutNotches 2 = .ok (.iload_n 3, 1) := by decide +kernel
theorem dX3_cutNotches_3 : decode cX3_cutNotches 3 = .ok (.aload_n 1, 1) := by decide +kernel
theorem dX3_cutNotches_4 : decode cX3_cutNotches 4 = .ok (.getfield 49, 3) := by decide +kernel
theorem dX3_cutNotches_7 : decode cX3_cutNotches 7 = .ok (.if_icmp .ge 85, 3) := by decide +kernel
theorem dX3_cutNotches_10 : decode cX3_cutNotches 10 = .ok (.aload_n 0, 1) := by decide +kernel
theorem dX3_cutNotches_11 : decode cX3_cutNotches 11 = .ok (.getfield 14, 3) := by decide +kernel
theorem dX3_cutNotches_14 : decode cX3_cutNotches 14 = .ok (.iload_n 3, 1) := by decide +kernel
theorem dX3_cutNotches_15 : decode cX3_cutNotches 15 = .ok (.invokevirtual 70, 3) := by decide +kernel
theorem dX3_cutNotches_18 : decode cX3_cutNotches 18 = .ok (.istore 4, 2) := by decide +kernel
theorem dX3_cutNotches_20 : decode cX3_cutNotches 20 = .ok (.iload 4, 2) := by decide +kernel
theorem dX3_cutNotches_22 : decode cX3_cutNotches 22 = .ok (.iconst (-1), 1) := by decide +kernel
theorem dX3_cutNotches_23 : decode cX3_cutNotches 23 = .ok (.if_icmp .eq 63, 3) := by decide +kernel
theorem dX3_cutNotches_26 : decode cX3_cutNotches 26 = .ok (.aload_n 1, 1) := by decide +kernel
theorem dX3_cutNotches_27 : decode cX3_cutNotches 27 = .ok (.getfield 91, 3) := by decide +kernel
theorem dX3_cutNotches_30 : decode cX3_cutNotches 30 = .ok (.iload_n 3, 1) := by decide +kernel
theorem dX3_cutNotches_31 : decode cX3_cutNotches 31 = .ok (.invokevirtual 70, 3) := by decide +kernel
theorem dX3_cutNotches_34 : decode cX3_cutNotches 34 = .ok (.iload_n 2, 1) := by decide +kernel
theorem dX3_cutNotches_35 : decode cX3_cutNotches 35 = .ok (.if_icmp .ne 51, 3) := by decide +kernel
theorem dX3_cutNotches_38 : decode cX3_cutNotches 38 = .ok (.iconst 0, 1) := by decide +kernel
theorem dX3_cutNotches_39 : decode cX3_cutNotches 39 = .ok (.istore 5, 2) := by decide +kernel
theorem dX3_cutNotches_41 : decode cX3_cutNotches 41 = .ok (.iload 5, 2) := by decide +kernel
theorem dX3_cutNotches_43 : decode cX3_cutNotches 43 = .ok (.aload_n 1, 1) := by decide +kernel
theorem dX3_cutNotches_44 : decode cX3_cutNotches 44 = .ok (.getfield 49, 3) := by decide +kernel
theorem dX3_cutNotches_47 : decode cX3_cutNotches 47 = .ok (.if_icmp .ge 25, 3) := by decide +kernel
theorem dX3_cutNotches_50 : decode cX3_cutNotches 50 = .ok (.aload_n 0, 1) := by decide +kernel
theorem dX3_cutNotches_51 : decode cX3_cutNotches 51 = .ok (.iload 4, 2) := by decide +kernel
theorem dX3_cutNotches_53 : decode cX3_cutNotches 53 = .ok (.aload_n 1, 1) := by decide +kernel
theorem dX3_cutNotches_54 : decode cX3_cutNotches 54 = .ok (.getfield 49, 3) := by decide +kernel
theorem dX3_cutNotches_57 : decode cX3_cutNotches 57 = .ok (.invokevirtual 94, 3) := by decide +kernel
theorem dX3_cutNotches_60 : decode cX3_cutNotches 60 = .ok (.ifCond .eq 12, 3) := by decide +kernel
theorem dX3_cutNotches_63 : decode cX3_cutNotches 63 = .ok (.iinc 4 1, 3) := by decide +kernel
theorem dX3_cutNotches_66 : decode cX3_cutNotches 66 = .ok (.iinc 5 1, 3) := by decide +kernel
theorem dX3_cutNotches_69 : decode cX3_cutNotches 69 = .ok (.goto (-28), 3) := by decide +kernel
theorem dX3_cutNotches_72 : decode cX3_cutNotches 72 = .ok (.aload_n 0, 1) := by decide +kernel
theorem dX3_cutNotches_73 : decode cX3_cutNotches 73 = .ok (.getfield 20, 3) := by decide +kernel
theorem dX3_cutNotches_76 : decode cX3_cutNotches 76 = .ok (.iload_n 3, 1) := by decide +kernel
theorem dX3_cutNotches_77 : decode cX3_cutNotches 77 = .ok (.aload_n 0, 1) := by decide +kernel
theorem dX3_cutNotches_78 : decode cX3_cutNotches 78 = .ok (.iload 4, 2) := by decide +kernel
theorem dX3_cutNotches_80 : decode cX3_cutNotches 80 = .ok (.invokevirtual 56, 3) := by decide +kernel
theorem dX3_cutNotches_83 : decode cX3_cutNotches 83 = .ok (.invokevirtual 59, 3) := by decide +kernel
theorem dX3_cutNotches_86 : decode cX3_cutNotches 86 = .ok (.iinc 3 1, 3) := by decide +kernel
theorem dX3_cutNotches_89 : decode cX3_cutNotches 89 = .ok (.goto (-87), 3) := by decide +kernel
theorem dX3_cutNotches_92 : decode cX3_cutNotches 92 = .ok (.return_, 1) := by decide +kernel
theorem dX3_hasNotch_0 : decode cX3_hasNotch 0 = .ok (.iconst 0, 1) := by decide +kernel
theorem dX3_hasNotch_1 : decode cX3_hasNotch 1 = .ok (.istore_n 3, 1) := by decide +kernel
theorem dX3_hasNotch_2 : decode cX3_hasNotch 2 = .ok (.iload_n 3, 1) := by decide +kernel
theorem dX3_hasNotch_3 : decode cX3_hasNotch 3 = .ok (.iload_n 2, 1) := by decide +kernel
theorem dX3_hasNotch_4 : decode cX3_hasNotch 4 = .ok (.if_icmp .ge 23, 3) := by decide +kernel
theorem dX3_hasNotch_7 : decode cX3_hasNotch 7 = .ok (.aload_n 0, 1) := by decide +kernel
theorem dX3_hasNotch_8 : decode cX3_hasNotch 8 = .ok (.getfield 20, 3) := by decide +kernel
theorem dX3_hasNotch_11 : decode cX3_hasNotch 11 = .ok (.iload_n 3, 1) := by decide +kernel
theorem dX3_hasNotch_12 : decode cX3_hasNotch 12 = .ok (.invokevirtual 70, 3) := by decide +kernel
theorem dX3_hasNotch_15 : decode cX3_hasNotch 15 = .ok (.iload_n 1, 1) := by decide +kernel
theorem dX3_hasNotch_16 : decode cX3_hasNotch 16 = .ok (.if_icmp .ne 5, 3) := by decide +kernel
theorem dX3_hasNotch_19 : decode cX3_hasNotch 19 = .ok (.iconst 1, 1) := by decide +kernel
theorem dX3_hasNotch_20 : decode cX3_hasNotch 20 = .ok (.ireturn, 1) := by decide +kernel
theorem dX3_hasNotch_21 : decode cX3_hasNotch 21 = .ok (.iinc 3 1, 3) := by decide +kernel
theorem dX3_hasNotch_24 : decode cX3_hasNotch 24 = .ok (.goto (-22), 3) := by decide +kernel
theorem dX3_hasNotch_27 : decode cX3_hasNotch 27 = .ok (.iconst 0, 1) := by decide +kernel
theorem dX3_hasNotch_28 : decode cX3_hasNotch 28 = .ok (.ireturn, 1) := by decide +kernel
theorem dX4_init_0 : decode cX4_init 0 = .ok (.aload_n 0, 1) := by decide +kernel
theorem dX4_init_1 : decode cX4_init 1 = .ok (.invokespecial 3, 3) := by decide +kernel
theorem dX4_init_4 : decode cX4_init 4 = .ok (.aload_n 0, 1) := by decide +kernel
theorem dX4_init_5 : decode cX4_init 5 = .ok (.iload_n 1, 1) := by decide +kernel
theorem dX4_init_6 : decode cX4_init 6 = .ok (.ifCond .le 7, 3) := by decide +kernel
theorem dX4_init_9 : decode cX4_init 9 = .ok (.iload_n 1, 1) := by decide +kernel
theorem dX4_init_10 : decode cX4_init 10 = .ok (.goto 4, 3) := by decide +kernel
theorem dX4_init_13 : decode cX4_init 13 = .ok (.iconst 0, 1) := by decide +kernel
theorem dX4_init_14 : decode cX4_init 14 = .ok (.newarray .int, 2) := by decide +kernel
theorem dX4_init_16 : decode cX4_init 16 = .ok (.putfield 9, 3) := by decide +kernel
theorem dX4_init_19 : decode cX4_init 19 = .ok (.return_, 1) := by decide +kernel
theorem dX4_at_0 : decode cX4_at 0 = .ok (.iload_n 1, 1) := by decide +kernel
theorem dX4_at_1 : decode cX4_at 1 = .ok (.ifCond .lt 21, 3) := by decide +kernel
theorem dX4_at_4 : decode cX4_at 4 = .ok (.iload_n 1, 1) := by decide +kernel
theorem dX4_at_5 : decode cX4_at 5 = .ok (.aload_n 0, 1) := by decide +kernel
theorem dX4_at_6 : decode cX4_at 6 = .ok (.getfield 9, 3) := by decide +kernel
theorem dX4_at_9 : decode cX4_at 9 = .ok (.arraylength, 1) := by decide +kernel
theorem dX4_at_10 : decode cX4_at 10 = .ok (.if_icmp .ge 12, 3) := by decide +kernel
theorem dX4_at_13 : decode cX4_at 13 = .ok (.aload_n 0, 1) := by decide +kernel
theorem dX4_at_14 : decode cX4_at 14 = .ok (.getfield 9, 3) := by decide +kernel
theorem dX4_at_17 : decode cX4_at 17 = .ok (.iload_n 1, 1) := by decide +kernel
theorem dX4_at_18 : decode cX4_at 18 = .ok (.iaload, 1) := by decide +kernel
theorem dX4_at_19 : decode cX4_at 19 = .ok (.goto 4, 3) := by decide +kernel
theorem dX4_at_22 : decode cX4_at 22 = .ok (.iconst (-1), 1) := by decide +kernel
theorem dX4_at_23 : decode cX4_at 23 = .ok (.ireturn, 1) := by decide +kernel
theorem dX4_put_0 : decode cX4_put 0 = .ok (.iload_n 1, 1) := by decide +kernel
theorem dX4_put_1 : decode cX4_put 1 = .ok (.ifCond .lt 19, 3) := by decide +kernel
theorem dX4_put_4 : decode cX4_put 4 = .ok (.iload_n 1, 1) := by decide +kernel
theorem dX4_put_5 : decode cX4_put 5 = .ok (.aload_n 0, 1) := by decide +kernel
theorem dX4_put_6 : decode cX4_put 6 = .ok (.getfield 9, 3) := by decide +kernel
theorem dX4_put_9 : decode cX4_put 9 = .ok (.arraylength, 1) := by decide +kernel
theorem dX4_put_10 : decode cX4_put 10 = .ok (.if_icmp .ge 10, 3) := by decide +kernel
theorem dX4_put_13 : decode cX4_put 13 = .ok (.aload_n 0, 1) := by decide +kernel
theorem dX4_put_14 : decode cX4_put 14 = .ok (.getfield 9, 3) := by decide +kernel
theorem dX4_put_17 : decode cX4_put 17 = .ok (.iload_n 1, 1) := by decide +kernel
theorem dX4_put_18 : decode cX4_put 18 = .ok (.iload_n 2, 1) := by decide +kernel
theorem dX4_put_19 : decode cX4_put 19 = .ok (.iastore, 1) := by decide +kernel
theorem dX4_put_20 : decode cX4_put 20 = .ok (.return_, 1) := by decide +kernel
theorem dX4_putNowhere_0 : decode cX4_putNowhere 0 = .ok (.iconst 0, 1) := by decide +kernel
theorem dX4_putNowhere_1 : decode cX4_putNowhere 1 = .ok (.istore_n 1, 1) := by decide +kernel
theorem dX4_putNowhere_2 : decode cX4_putNowhere 2 = .ok (.iload_n 1, 1) := by decide +kernel
theorem dX4_putNowhere_3 : decode cX4_putNowhere 3 = .ok (.aload_n 0, 1) := by decide +kernel
theorem dX4_putNowhere_4 : decode cX4_putNowhere 4 = .ok (.getfield 9, 3) := by decide +kernel
theorem dX4_putNowhere_7 : decode cX4_putNowhere 7 = .ok (.arraylength, 1) := by decide +kernel
theorem dX4_putNowhere_8 : decode cX4_putNowhere 8 = .ok (.if_icmp .ge 16, 3) := by decide +kernel
theorem dX4_putNowhere_11 : decode cX4_putNowhere 11 = .ok (.aload_n 0, 1) := by decide +kernel
theorem dX4_putNowhere_12 : decode cX4_putNowhere 12 = .ok (.getfield 9, 3) := by decide +kernel
theorem dX4_putNowhere_15 : decode cX4_putNowhere 15 = .ok (.iload_n 1, 1) := by decide +kernel
theorem dX4_putNowhere_16 : decode cX4_putNowhere 16 = .ok (.iconst (-1), 1) := by decide +kernel
theorem dX4_putNowhere_17 : decode cX4_putNowhere 17 = .ok (.iastore, 1) := by decide +kernel
theorem dX4_putNowhere_18 : decode cX4_putNowhere 18 = .ok (.iinc 1 1, 3) := by decide +kernel
theorem dX4_putNowhere_21 : decode cX4_putNowhere 21 = .ok (.goto (-19), 3) := by decide +kernel
theorem dX4_putNowhere_24 : decode cX4_putNowhere 24 = .ok (.return_, 1) := by decide +kernel
theorem dX4_copyFrom_0 : decode cX4_copyFrom 0 = .ok (.iconst 0, 1) := by decide +kernel
theorem dX4_copyFrom_1 : decode cX4_copyFrom 1 = .ok (.istore_n 2, 1) := by decide +kernel
theorem dX4_copyFrom_2 : decode cX4_copyFrom 2 = .ok (.iload_n 2, 1) := by decide +kernel
theorem dX4_copyFrom_3 : decode cX4_copyFrom 3 = .ok (.aload_n 0, 1) := by decide +kernel
theorem dX4_copyFrom_4 : decode cX4_copyFrom 4 = .ok (.getfield 9, 3) := by decide +kernel
theorem dX4_copyFrom_7 : decode cX4_copyFrom 7 = .ok (.arraylength, 1) := by decide +kernel
theorem dX4_copyFrom_8 : decode cX4_copyFrom 8 = .ok (.if_icmp .ge 20, 3) := by decide +kernel
theorem dX4_copyFrom_11 : decode cX4_copyFrom 11 = .ok (.aload_n 0, 1) := by decide +kernel
theorem dX4_copyFrom_12 : decode cX4_copyFrom 12 = .ok (.getfield 9, 3) := by decide +kernel
theorem dX4_copyFrom_15 : decode cX4_copyFrom 15 = .ok (.iload_n 2, 1) := by decide +kernel
theorem dX4_copyFrom_16 : decode cX4_copyFrom 16 = .ok (.aload_n 1, 1) := by decide +kernel
theorem dX4_copyFrom_17 : decode cX4_copyFrom 17 = .ok (.iload_n 2, 1) := by decide +kernel
theorem dX4_copyFrom_18 : decode cX4_copyFrom 18 = .ok (.invokevirtual 15, 3) := by decide +kernel
theorem dX4_copyFrom_21 : decode cX4_copyFrom 21 = .ok (.iastore, 1) := by decide +kernel
theorem dX4_copyFrom_22 : decode cX4_copyFrom 22 = .ok (.iinc 2 1, 3) := by decide +kernel
theorem dX4_copyFrom_25 : decode cX4_copyFrom 25 = .ok (.goto (-23), 3) := by decide +kernel
theorem dX4_copyFrom_28 : decode cX4_copyFrom 28 = .ok (.return_, 1) := by decide +kernel
theorem dX5_init_0 : decode cX5_init 0 = .ok (.aload_n 0, 1) := by decide +kernel
theorem dX5_init_1 : decode cX5_init 1 = .ok (.invokespecial 3, 3) := by decide +kernel
theorem dX5_init_4 : decode cX5_init 4 = .ok (.aload_n 0, 1) := by decide +kernel
theorem dX5_init_5 : decode cX5_init 5 = .ok (.iconst 0, 1) := by decide +kernel
theorem dX5_init_6 : decode cX5_init 6 = .ok (.putfield 9, 3) := by decide +kernel
theorem dX5_init_9 : decode cX5_init 9 = .ok (.aload_n 0, 1) := by decide +kernel
theorem dX5_init_10 : decode cX5_init 10 = .ok (.new 15, 3) := by decide +kernel
theorem dX5_init_13 : decode cX5_init 13 = .ok (.dup, 1) := by decide +kernel
theorem dX5_init_14 : decode cX5_init 14 = .ok (.bipush 10, 2) := by decide +kernel
theorem dX5_init_16 : decode cX5_init 16 = .ok (.invokespecial 17, 3) := by decide +kernel
theorem dX5_init_19 : decode cX5_init 19 = .ok (.putfield 20, 3) := by decide +kernel
theorem dX5_init_22 : decode cX5_init 22 = .ok (.aload_n 0, 1) := by decide +kernel
theorem dX5_init_23 : decode cX5_init 23 = .ok (.new 15, 3) := by decide +kernel
theorem dX5_init_26 : decode cX5_init 26 = .ok (.dup, 1) := by decide +kernel
theorem dX5_init_27 : decode cX5_init 27 = .ok (.bipush 10, 2) := by decide +kernel
theorem dX5_init_29 : decode cX5_init 29 = .ok (.invokespecial 17, 3) := by decide +kernel
theorem dX5_init_32 : decode cX5_init 32 = .ok (.putfield 24, 3) := by decide +kernel
theorem dX5_init_35 : decode cX5_init 35 = .ok (.aload_n 0, 1) := by decide +kernel
theorem dX5_init_36 : decode cX5_init 36 = .ok (.new 15, 3) := by decide +kernel
theorem dX5_init_39 : decode cX5_init 39 = .ok (.dup, 1) := by decide +kernel
theorem dX5_init_40 : decode cX5_init 40 = .ok (.bipush 10, 2) := by decide +kernel
theorem dX5_init_42 : decode cX5_init 42 = .ok (.invokespecial 17, 3) := by decide +kernel
theorem dX5_init_45 : decode cX5_init 45 = .ok (.putfield 27, 3) := by decide +kernel
theorem dX5_init_48 : decode cX5_init 48 = .ok (.aload_n 0, 1) := by decide +kernel
theorem dX5_init_49 : decode cX5_init 49 = .ok (.new 15, 3) := by decide +kernel
theorem dX5_init_52 : decode cX5_init 52 = .ok (.dup, 1) := by decide +kernel
theorem dX5_init_53 : decode cX5_init 53 = .ok (.bipush 10, 2) := by decide +kernel
theorem dX5_init_55 : decode cX5_init 55 = .ok (.invokespecial 17, 3) := by decide +kernel
theorem dX5_init_58 : decode cX5_init 58 = .ok (.putfield 30, 3) := by decide +kernel
theorem dX5_init_61 : decode cX5_init 61 = .ok (.aload_n 0, 1) := by decide +kernel
theorem dX5_init_62 : decode cX5_init 62 = .ok (.new 15, 3) := by decide +kernel
theorem dX5_init_65 : decode cX5_init 65 = .ok (.dup, 1) := by decide +kernel
theorem dX5_init_66 : decode cX5_init 66 = .ok (.iconst 3, 1) := by decide +kernel
theorem dX5_init_67 : decode cX5_init 67 = .ok (.invokespecial 17, 3) := by decide +kernel
theorem dX5_init_70 : decode cX5_init 70 = .ok (.putfield 33, 3) := by decide +kernel
theorem dX5_init_73 : decode cX5_init 73 = .ok (.aload_n 0, 1) := by decide +kernel
theorem dX5_init_74 : decode cX5_init 74 = .ok (.sipush 300, 3) := by decide +kernel
theorem dX5_init_77 : decode cX5_init 77 = .ok (.putfield 36, 3) := by decide +kernel
theorem dX5_init_80 : decode cX5_init 80 = .ok (.aload_n 0, 1) := by decide +kernel
theorem dX5_init_81 : decode cX5_init 81 = .ok (.iconst 0, 1) := by decide +kernel
theorem dX5_init_82 : decode cX5_init 82 = .ok (.putfield 39, 3) := by decide +kernel
theorem dX5_init_85 : decode cX5_init 85 = .ok (.aload_n 0, 1) := by decide +kernel
theorem dX5_init_86 : decode cX5_init 86 = .ok (.new 15, 3) := by decide +kernel
theorem dX5_init_89 : decode cX5_init 89 = .ok (.dup, 1) := by decide +kernel
theorem dX5_init_90 : decode cX5_init 90 = .ok (.iconst 5, 1) := by decide +kernel
theorem dX5_init_91 : decode cX5_init 91 = .ok (.invokespecial 17, 3) := by decide +kernel
theorem dX5_init_94 : decode cX5_init 94 = .ok (.putfield 42, 3) := by decide +kernel
theorem dX5_init_97 : decode cX5_init 97 = .ok (.aload_n 0, 1) := by decide +kernel
theorem dX5_init_98 : decode cX5_init 98 = .ok (.new 15, 3) := by decide +kernel
theorem dX5_init_101 : decode cX5_init 101 = .ok (.dup, 1) := by decide +kernel
theorem dX5_init_102 : decode cX5_init 102 = .ok (.iconst 5, 1) := by decide +kernel
theorem dX5_init_103 : decode cX5_init 103 = .ok (.invokespecial 17, 3) := by decide +kernel
theorem dX5_init_106 : decode cX5_init 106 = .ok (.putfield 45, 3) := by decide +kernel
theorem dX5_init_109 : decode cX5_init 109 = .ok (.aload_n 0, 1) := by decide +kernel
theorem dX5_init_110 : decode cX5_init 110 = .ok (.new 15, 3) := by decide +kernel
theorem dX5_init_113 : decode cX5_init 113 = .ok (.dup, 1) := by decide +kernel
theorem dX5_init_114 : decode cX5_init 114 = .ok (.iconst 5, 1) := by decide +kernel
theorem dX5_init_115 : decode cX5_init 115 = .ok (.invokespecial 17, 3) := by decide +kernel
theorem dX5_init_118 : decode cX5_init 118 = .ok (.putfield 48, 3) := by decide +kernel
theorem dX5_init_121 : decode cX5_init 121 = .ok (.aload_n 0, 1) := by decide +kernel
theorem dX5_init_122 : decode cX5_init 122 = .ok (.new 15, 3) := by decide +kernel
theorem dX5_init_125 : decode cX5_init 125 = .ok (.dup, 1) := by decide +kernel
theorem dX5_init_126 : decode cX5_init 126 = .ok (.bipush 50, 2) := by decide +kernel
theorem dX5_init_128 : decode cX5_init 128 = .ok (.invokespecial 17, 3) := by decide +kernel
theorem dX5_init_131 : decode cX5_init 131 = .ok (.putfield 51, 3) := by decide +kernel
theorem dX5_init_134 : decode cX5_init 134 = .ok (.return_, 1) := by decide +kernel
theorem dX5_copyFrom_0 : decode cX5_copyFrom 0 = .ok (.aload_n 0, 1) := by decide +kernel
theorem dX5_copyFrom_1 : decode cX5_copyFrom 1 = .ok (.aload_n 1, 1) := by decide +kernel
theorem dX5_copyFrom_2 : decode cX5_copyFrom 2 = .ok (.getfield 9, 3) := by decide +kernel
theorem dX5_copyFrom_5 : decode cX5_copyFrom 5 = .ok (.putfield 9, 3) := by decide +kernel
theorem dX5_copyFrom_8 : decode cX5_copyFrom 8 = .ok (.aload_n 0, 1) := by decide +kernel
theorem dX5_copyFrom_9 : decode cX5_copyFrom 9 = .ok (.getfield 20, 3) := by decide +kernel
theorem dX5_copyFrom_12 : decode cX5_copyFrom 12 = .ok (.aload_n 1, 1) := by decide +kernel
theorem dX5_copyFrom_13 : decode cX5_copyFrom 13 = .ok (.getfield 20, 3) := by decide +kernel
theorem dX5_copyFrom_16 : decode cX5_copyFrom 16 = .ok (.invokevirtual 54, 3) := by decide +kernel
theorem dX5_copyFrom_19 : decode cX5_copyFrom 19 = .ok (.aload_n 0, 1) := by decide +kernel
theorem dX5_copyFrom_20 : decode cX5_copyFrom 20 = .ok (.getfield 24, 3) := by decide +kernel
theorem dX5_copyFrom_23 : decode cX5_copyFrom 23 = .ok (.aload_n 1, 1) := by decide +kernel
theorem dX5_copyFrom_24 : decode cX5_copyFrom 24 = .ok (.getfield 24, 3) := by decide +kernel
theorem dX5_copyFrom_27 : decode cX5_copyFrom 27 = .ok (.invokevirtual 54, 3) := by decide +kernel
theorem dX5_copyFrom_30 : decode cX5_copyFrom 30 = .ok (.aload_n 0, 1) := by decide +kernel
theorem dX5_copyFrom_31 : decode cX5_copyFrom 31 = .ok (.getfield 27, 3) := by decide +kernel
theorem dX5_copyFrom_34 : decode cX5_copyFrom 34 = .ok (.aload_n 1, 1) := by decide +kernel
theorem dX5_copyFrom_35 : decode cX5_copyFrom 35 = .ok (.getfield 27, 3) := by decide +kernel
theorem dX5_copyFrom_38 : decode cX5_copyFrom 38 = .ok (.invokevirtual 54, 3) := by decide +kernel
theorem dX5_copyFrom_41 : decode cX5_copyFrom 41 = .ok (.aload_n 0, 1) := by decide +kernel
theorem dX5_copyFrom_42 : decode cX5_copyFrom 42 = .ok (.getfield 30, 3) := by decide +kernel
theorem dX5_copyFrom_45 : decode cX5_copyFrom 45 = .ok (.aload_n 1, 1) := by decide +kernel
theorem dX5_copyFrom_46 : decode cX5_copyFrom 46 = .ok (.getfield 30, 3) := by decide +kernel
theorem dX5_copyFrom_49 : decode cX5_copyFrom 49 = .ok (.invokevirtual 54, 3) := by decide +kernel
theorem dX5_copyFrom_52 : decode cX5_copyFrom 52 = .ok (.aload_n 0, 1) := by decide +kernel
theorem dX5_copyFrom_53 : decode cX5_copyFrom 53 = .ok (.getfield 33, 3) := by decide +kernel
theorem dX5_copyFrom_56 : decode cX5_copyFrom 56 = .ok (.aload_n 1, 1) := by decide +kernel
theorem dX5_copyFrom_57 : decode cX5_copyFrom 57 = .ok (.getfield 33, 3) := by decide +kernel
theorem dX5_copyFrom_60 : decode cX5_copyFrom 60 = .ok (.invokevirtual 54, 3) := by decide +kernel
theorem dX5_copyFrom_63 : decode cX5_copyFrom 63 = .ok (.aload_n 0, 1) := by decide +kernel
theorem dX5_copyFrom_64 : decode cX5_copyFrom 64 = .ok (.aload_n 1, 1) := by decide +kernel
theorem dX5_copyFrom_65 : decode cX5_copyFrom 65 = .ok (.getfield 36, 3) := by decide +kernel
theorem dX5_copyFrom_68 : decode cX5_copyFrom 68 = .ok (.putfield 36, 3) := by decide +kernel
theorem dX5_copyFrom_71 : decode cX5_copyFrom 71 = .ok (.aload_n 0, 1) := by decide +kernel
theorem dX5_copyFrom_72 : decode cX5_copyFrom 72 = .ok (.aload_n 1, 1) := by decide +kernel
theorem dX5_copyFrom_73 : decode cX5_copyFrom 73 = .ok (.getfield 39, 3) := by decide +kernel
theorem dX5_copyFrom_76 : decode cX5_copyFrom 76 = .ok (.putfield 39, 3) := by decide +kernel
theorem dX5_copyFrom_79 : decode cX5_copyFrom 79 = .ok (.aload_n 0, 1) := by decide +kernel
theorem dX5_copyFrom_80 : decode cX5_copyFrom 80 = .ok (.getfield 42, 3) := by decide +kernel
theorem dX5_copyFrom_83 : decode cX5_copyFrom 83 = .ok (.aload_n 1, 1) := by decide +kernel
theorem dX5_copyFrom_84 : decode cX5_copyFrom 84 = .ok (.getfield 42, 3) := by decide +kernel
theorem dX5_copyFrom_87 : decode cX5_copyFrom 87 = .ok (.invokevirtual 54, 3) := by decide +kernel
theorem dX5_copyFrom_90 : decode cX5_copyFrom 90 = .ok (.aload_n 0, 1) := by decide +kernel
theorem dX5_copyFrom_91 : decode cX5_copyFrom 91 = .ok (.getfield 45, 3) := by decide +kernel
theorem dX5_copyFrom_94 : decode cX5_copyFrom 94 = .ok (.aload_n 1, 1) := by decide +kernel
theorem dX5_copyFrom_95 : decode cX5_copyFrom 95 = .ok (.getfield 45, 3) := by decide +kernel
theorem dX5_copyFrom_98 : decode cX5_copyFrom 98 = .ok (.invokevirtual 54, 3) := by decide +kernel
theorem dX5_copyFrom_101 : decode cX5_copyFrom 101 = .ok (.aload_n 0, 1) := by decide +kernel
theorem dX5_copyFrom_102 : decode cX5_copyFrom 102 = .ok (.getfield 48, 3) := by decide +kernel
theorem dX5_copyFrom_105 : decode cX5_copyFrom 105 = .ok (.aload_n 1, 1) := by decide +kernel
theorem dX5_copyFrom_106 : decode cX5_copyFrom 106 = .ok (.getfield 48, 3) := by decide +kernel
theorem dX5_copyFrom_109 : decode cX5_copyFrom 109 = .ok (.invokevirtual 54, 3) := by decide +kernel
theorem dX5_copyFrom_112 : decode cX5_copyFrom 112 = .ok (.aload_n 0, 1) := by decide +kernel
theorem dX5_copyFrom_113 : decode cX5_copyFrom 113 = .ok (.getfield 51, 3) := by decide +kernel
theorem dX5_copyFrom_116 : decode cX5_copyFrom 116 = .ok (.aload_n 1, 1) := by decide +kernel
theorem dX5_copyFrom_117 : decode cX5_copyFrom 117 = .ok (.getfield 51, 3) := by decide +kernel
theorem dX5_copyFrom_120 : decode cX5_copyFrom 120 = .ok (.invokevirtual 54, 3) := by decide +kernel
theorem dX5_copyFrom_123 : decode cX5_copyFrom 123 = .ok (.return_, 1) := by decide +kernel
theorem dX5_addFeast_0 : decode cX5_addFeast 0 = .ok (.aload_n 0, 1) := by decide +kernel
theorem dX5_addFeast_1 : decode cX5_addFeast 1 = .ok (.getfield 20, 3) := by decide +kernel
theorem dX5_addFeast_4 : decode cX5_addFeast 4 = .ok (.aload_n 0, 1) := by decide +kernel
theorem dX5_addFeast_5 : decode cX5_addFeast 5 = .ok (.getfield 9, 3) := by decide +kernel
theorem dX5_addFeast_8 : decode cX5_addFeast 8 = .ok (.aload_n 1, 1) := by decide +kernel
theorem dX5_addFeast_9 : decode cX5_addFeast 9 = .ok (.getfield 58, 3) := by decide +kernel
theorem dX5_addFeast_12 : decode cX5_addFeast 12 = .ok (.invokevirtual 63, 3) := by decide +kernel
theorem dX5_addFeast_15 : decode cX5_addFeast 15 = .ok (.aload_n 0, 1) := by decide +kernel
theorem dX5_addFeast_16 : decode cX5_addFeast 16 = .ok (.getfield 24, 3) := by decide +kernel
theorem dX5_addFeast_19 : decode cX5_addFeast 19 = .ok (.aload_n 0, 1) := by decide +kernel
theorem dX5_addFeast_20 : decode cX5_addFeast 20 = .ok (.getfield 9, 3) := by decide +kernel
theorem dX5_addFeast_23 : decode cX5_addFeast 23 = .ok (.aload_n 1, 1) := by decide +kernel
theorem dX5_addFeast_24 : decode cX5_addFeast 24 = .ok (.getfield 67, 3) := by decide +kernel
theorem dX5_addFeast_27 : decode cX5_addFeast 27 = .ok (.invokevirtual 63, 3) := by decide +kernel
theorem dX5_addFeast_30 : decode cX5_addFeast 30 = .ok (.aload_n 0, 1) := by decide +kernel
theorem dX5_addFeast_31 : decode cX5_addFeast 31 = .ok (.getfield 27, 3) := by decide +kernel
theorem dX5_addFeast_34 : decode cX5_addFeast 34 = .ok (.aload_n 0, 1) := by decide +kernel
theorem dX5_addFeast_35 : decode cX5_addFeast 35 = .ok (.getfield 9, 3) := by decide +kernel
theorem dX5_addFeast_38 : decode cX5_addFeast 38 = .ok (.aload_n 1, 1) := by decide +kernel
theorem dX5_addFeast_39 : decode cX5_addFeast 39 = .ok (.getfield 70, 3) := by decide +kernel
theorem dX5_addFeast_42 : decode cX5_addFeast 42 = .ok (.ifCond .eq 11, 3) := by decide +kernel
theorem dX5_addFeast_45 : decode cX5_addFeast 45 = .ok (.aload_n 1, 1) := by decide +kernel
theorem dX5_addFeast_46 : decode cX5_addFeast 46 = .ok (.getfield 74, 3) := by decide +kernel
theorem dX5_addFeast_49 : decode cX5_addFeast 49 = .ok (.ineg, 1) := by decide +kernel
theorem dX5_addFeast_50 : decode cX5_addFeast 50 = .ok (.goto 7, 3) := by decide +kernel
theorem dX5_addFeast_53 : decode cX5_addFeast 53 = .ok (.aload_n 1, 1) := by decide +kernel
theorem dX5_addFeast_54 : decode cX5_addFeast 54 = .ok (.getfield 74, 3) := by decide +kernel
theorem dX5_addFeast_57 : decode cX5_addFeast 57 = .ok (.invokevirtual 63, 3) := by decide +kernel
theorem dX5_addFeast_60 : decode cX5_addFeast 60 = .ok (.aload_n 0, 1) := by decide +kernel
theorem dX5_addFeast_61 : decode cX5_addFeast 61 = .ok (.getfield 30, 3) := by decide +kernel
theorem dX5_addFeast_64 : decode cX5_addFeast 64 = .ok (.aload_n 0, 1) := by decide +kernel
theorem dX5_addFeast_65 : decode cX5_addFeast 65 = .ok (.getfield 9, 3) := by decide +kernel
theorem dX5_addFeast_68 : decode cX5_addFeast 68 = .ok (.aload_n 1, 1) := by decide +kernel
theorem dX5_addFeast_69 : decode cX5_addFeast 69 = .ok (.getfield 77, 3) := by decide +kernel
theorem dX5_addFeast_72 : decode cX5_addFeast 72 = .ok (.invokevirtual 63, 3) := by decide +kernel
theorem dX5_addFeast_75 : decode cX5_addFeast 75 = .ok (.aload_n 0, 1) := by decide +kernel
theorem dX5_addFeast_76 : decode cX5_addFeast 76 = .ok (.dup, 1) := by decide +kernel
theorem dX5_addFeast_77 : decode cX5_addFeast 77 = .ok (.getfield 9, 3) := by decide +kernel
theorem dX5_addFeast_80 : decode cX5_addFeast 80 = .ok (.iconst 1, 1) := by decide +kernel
theorem dX5_addFeast_81 : decode cX5_addFeast 81 = .ok (.iadd, 1) := by decide +kernel
theorem dX5_addFeast_82 : decode cX5_addFeast 82 = .ok (.putfield 9, 3) := by decide +kernel
theorem dX5_addFeast_85 : decode cX5_addFeast 85 = .ok (.return_, 1) := by decide +kernel
theorem dX5_addStick_0 : decode cX5_addStick 0 = .ok (.aload_n 0, 1) := by decide +kernel
theorem dX5_addStick_1 : decode cX5_addStick 1 = .ok (.getfield 39, 3) := by decide +kernel
theorem dX5_addStick_4 : decode cX5_addStick 4 = .ok (.iconst 5, 1) := by decide +kernel
theorem dX5_addStick_5 : decode cX5_addStick 5 = .ok (.if_icmp .ge 13, 3) := by decide +kernel
theorem dX5_addStick_8 : decode cX5_addStick 8 = .ok (.aload_n 0, 1) := by decide +kernel
theorem dX5_addStick_9 : decode cX5_addStick 9 = .ok (.dup, 1) := by decide +kernel
theorem dX5_addStick_10 : decode cX5_addStick 10 = .ok (.getfield 39, 3) := by decide +kernel
theorem dX5_addStick_13 : decode cX5_addStick 13 = .ok (.iconst 1, 1) := by decide +kernel
theorem dX5_addStick_14 : decode cX5_addStick 14 = .ok (.iadd, 1) := by decide +kernel
theorem dX5_addStick_15 : decode cX5_addStick 15 = .ok (.putfield 39, 3) := by decide +kernel
theorem dX5_addStick_18 : decode cX5_addStick 18 = .ok (.aload_n 0, 1) := by decide +kernel
theorem dX5_addStick_19 : decode cX5_addStick 19 = .ok (.getfield 39, 3) := by decide +kernel
theorem dX5_addStick_22 : decode cX5_addStick 22 = .ok (.iconst 1, 1) := by decide +kernel
theorem dX5_addStick_23 : decode cX5_addStick 23 = .ok (.isub, 1) := by decide +kernel
theorem dX5_addStick_24 : decode cX5_addStick 24 = .ok (.istore 4, 2) := by decide +kernel
theorem dX5_addStick_26 : decode cX5_addStick 26 = .ok (.iload 4, 2) := by decide +kernel
theorem dX5_addStick_28 : decode cX5_addStick 28 = .ok (.ifCond .le 19, 3) := by decide +kernel
theorem dX5_addStick_31 : decode cX5_addStick 31 = .ok (.aload_n 0, 1) := by decide +kernel
theorem dX5_addStick_32 : decode cX5_addStick 32 = .ok (.iload 4, 2) := by decide +kernel
theorem dX5_addStick_34 : decode cX5_addStick 34 = .ok (.iconst 1, 1) := by decide +kernel
theorem dX5_addStick_35 : decode cX5_addStick 35 = .ok (.isub, 1) := by decide +kernel
theorem dX5_addStick_36 : decode cX5_addStick 36 = .ok (.iload 4, 2) := by decide +kernel
theorem dX5_addStick_38 : decode cX5_addStick 38 = .ok (.invokevirtual 80, 3) := by decide +kernel
theorem dX5_addStick_41 : decode cX5_addStick 41 = .ok (.iinc 4 (-1), 3) := by decide +kernel
theorem dX5_addStick_44 : decode cX5_addStick 44 = .ok (.goto (-18), 3) := by decide +kernel
theorem dX5_addStick_47 : decode cX5_addStick 47 = .ok (.aload_n 0, 1) := by decide +kernel
theorem dX5_addStick_48 : decode cX5_addStick 48 = .ok (.getfield 42, 3) := by decide +kernel
theorem dX5_addStick_51 : decode cX5_addStick 51 = .ok (.iconst 0, 1) := by decide +kernel
theorem dX5_addStick_52 : decode cX5_addStick 52 = .ok (.iload_n 1, 1) := by decide +kernel
theorem dX5_addStick_53 : decode cX5_addStick 53 = .ok (.invokevirtual 63, 3) := by decide +kernel
theorem dX5_addStick_56 : decode cX5_addStick 56 = .ok (.aload_n 0, 1) := by decide +kernel
theorem dX5_addStick_57 : decode cX5_addStick 57 = .ok (.getfield 45, 3) := by decide +kernel
theorem dX5_addStick_60 : decode cX5_addStick 60 = .ok (.iconst 0, 1) := by decide +kernel
theorem dX5_addStick_61 : decode cX5_addStick 61 = .ok (.iload_n 2, 1) := by decide +kernel
theorem dX5_addStick_62 : decode cX5_addStick 62 = .ok (.invokevirtual 63, 3) := by decide +kernel
theorem dX5_addStick_65 : decode cX5_addStick 65 = .ok (.aload_n 0, 1) := by decide +kernel
theorem dX5_addStick_66 : decode cX5_addStick 66 = .ok (.getfield 48, 3) := by decide +kernel
theorem dX5_addStick_69 : decode cX5_addStick 69 = .ok (.iconst 0, 1) := by decide +kernel
theorem dX5_addStick_70 : decode cX5_addStick 70 = .ok (.aload_n 0, 1) := by decide +kernel
theorem dX5_addStick_71 : decode cX5_addStick 71 = .ok (.getfield 9, 3) := by decide +kernel
theorem dX5_addStick_74 : decode cX5_addStick 74 = .ok (.invokevirtual 63, 3) := by decide +kernel
theorem dX5_addStick_77 : decode cX5_addStick 77 = .ok (.iconst 0, 1) := by decide +kernel
theorem dX5_addStick_78 : decode cX5_addStick 78 = .ok (.istore 4, 2) := by decide +kernel
theorem dX5_addStick_80 : decode cX5_addStick 80 = .ok (.iload 4, 2) := by decide +kernel
theorem dX5_addStick_82 : decode cX5_addStick 82 = .ok (.bipush 10, 2) := by decide +kernel
theorem dX5_addStick_84 : decode cX5_addStick 84 = .ok (.if_icmp .ge 24, 3) := by decide +kernel
theorem dX5_addStick_87 : decode cX5_addStick 87 = .ok (.aload_n 0, 1) := by decide +kernel
theorem dX5_addStick_88 : decode cX5_addStick 88 = .ok (.getfield 51, 3) := by decide +kernel
theorem dX5_addStick_91 : decode cX5_addStick 91 = .ok (.iload 4, 2) := by decide +kernel
theorem dX5_addStick_93 : decode cX5_addStick 93 = .ok (.aload_n 3, 1) := by decide +kernel
theorem dX5_addStick_94 : decode cX5_addStick 94 = .ok (.iload 4, 2) := by decide +kernel
theorem dX5_addStick_96 : decode cX5_addStick 96 = .ok (.invokevirtual 83, 3) := by decide +kernel
theorem dX5_addStick_99 : decode cX5_addStick 99 = .ok (.invokevirtual 63, 3) := by decide +kernel
theorem dX5_addStick_102 : decode cX5_addStick 102 = .ok (.iinc 4 1, 3) := by decide +kernel
theorem dX5_addStick_105 : decode cX5_addStick 105 = .ok (.goto (-25), 3) := by decide +kernel
theorem dX5_addStick_108 : decode cX5_addStick 108 = .ok (.return_, 1) := by decide +kernel
theorem dX5_dropStick_0 : decode cX5_dropStick 0 = .ok (.iload_n 1, 1) := by decide +kernel
theorem dX5_dropStick_1 : decode cX5_dropStick 1 = .ok (.istore_n 2, 1) := by decide +kernel
theorem dX5_dropStick_2 : decode cX5_dropStick 2 = .ok (.iload_n 2, 1) := by decide +kernel
theorem dX5_dropStick_3 : decode cX5_dropStick 3 = .ok (.aload_n 0, 1) := by decide +kernel
theorem dX5_dropStick_4 : decode cX5_dropStick 4 = .ok (.getfield 39, 3) := by decide +kernel
theorem dX5_dropStick_7 : decode cX5_dropStick 7 = .ok (.iconst 1, 1) := by decide +kernel
theorem dX5_dropStick_8 : decode cX5_dropStick 8 = .ok (.isub, 1) := by decide +kernel
theorem dX5_dropStick_9 : decode cX5_dropStick 9 = .ok (.if_icmp .ge 17, 3) := by decide +kernel
theorem dX5_dropStick_12 : decode cX5_dropStick 12 = .ok (.aload_n 0, 1) := by decide +kernel
theorem dX5_dropStick_13 : decode cX5_dropStick 13 = .ok (.iload_n 2, 1) := by decide +kernel
theorem dX5_dropStick_14 : decode cX5_dropStick 14 = .ok (.iconst 1, 1) := by decide +kernel
theorem dX5_dropStick_15 : decode cX5_dropStick 15 = .ok (.iadd, 1) := by decide +kernel
theorem dX5_dropStick_16 : decode cX5_dropStick 16 = .ok (.iload_n 2, 1) := by decide +kernel
theorem dX5_dropStick_17 : decode cX5_dropStick 17 = .ok (.invokevirtual 80, 3) := by decide +kernel
theorem dX5_dropStick_20 : decode cX5_dropStick 20 = .ok (.iinc 2 1, 3) := by decide +kernel
theorem dX5_dropStick_23 : decode cX5_dropStick 23 = .ok (.goto (-21), 3) := by decide +kernel
theorem dX5_dropStick_26 : decode cX5_dropStick 26 = .ok (.aload_n 0, 1) := by decide +kernel
theorem dX5_dropStick_27 : decode cX5_dropStick 27 = .ok (.dup, 1) := by decide +kernel
theorem dX5_dropStick_28 : decode cX5_dropStick 28 = .ok (.getfield 39, 3) := by decide +kernel
theorem dX5_dropStick_31 : decode cX5_dropStick 31 = .ok (.iconst 1, 1) := by decide +kernel
theorem dX5_dropStick_32 : decode cX5_dropStick 32 = .ok (.isub, 1) := by decide +kernel
theorem dX5_dropStick_33 : decode cX5_dropStick 33 = .ok (.putfield 39, 3) := by decide +kernel
theorem dX5_dropStick_36 : decode cX5_dropStick 36 = .ok (.return_, 1) := by decide +kernel
theorem dX5_copyStick_0 : decode cX5_copyStick 0 = .ok (.aload_n 0, 1) := by decide +kernel
theorem dX5_copyStick_1 : decode cX5_copyStick 1 = .ok (.getfield 42, 3) := by decide +kernel
theorem dX5_copyStick_4 : decode cX5_copyStick 4 = .ok (.iload_n 2, 1) := by decide +kernel
theorem dX5_copyStick_5 : decode cX5_copyStick 5 = .ok (.aload_n 0, 1) := by decide +kernel
theorem dX5_copyStick_6 : decode cX5_copyStick 6 = .ok (.getfield 42, 3) := by decide +kernel
theorem dX5_copyStick_9 : decode cX5_copyStick 9 = .ok (.iload_n 1, 1) := by decide +kernel
theorem dX5_copyStick_10 : decode cX5_copyStick 10 = .ok (.invokevirtual 83, 3) := by decide +kernel
theorem dX5_copyStick_13 : decode cX5_copyStick 13 = .ok (.invokevirtual 63, 3) := by decide +kernel
theorem dX5_copyStick_16 : decode cX5_copyStick 16 = .ok (.aload_n 0, 1) := by decide +kernel
theorem dX5_copyStick_17 : decode cX5_copyStick 17 = .ok (.getfield 45, 3) := by decide +kernel
theorem dX5_copyStick_20 : decode cX5_copyStick 20 = .ok (.iload_n 2, 1) := by decide +kernel
theorem dX5_copyStick_21 : decode cX5_copyStick 21 = .ok (.aload_n 0, 1) := by decide +kernel
theorem dX5_copyStick_22 : decode cX5_copyStick 22 = .ok (.getfield 45, 3) := by decide +kernel
theorem dX5_copyStick_25 : decode cX5_copyStick 25 = .ok (.iload_n 1, 1) := by decide +kernel
theorem dX5_copyStick_26 : decode cX5_copyStick 26 = .ok (.invokevirtual 83, 3) := by decide +kernel
theorem dX5_copyStick_29 : decode cX5_copyStick 29 = .ok (.invokevirtual 63, 3) := by decide +kernel
theorem dX5_copyStick_32 : decode cX5_copyStick 32 = .ok (.aload_n 0, 1) := by decide +kernel
theorem dX5_copyStick_33 : decode cX5_copyStick 33 = .ok (.getfield 48, 3) := by decide +kernel
theorem dX5_copyStick_36 : decode cX5_copyStick 36 = .ok (.iload_n 2, 1) := by decide +kernel
theorem dX5_copyStick_37 : decode cX5_copyStick 37 = .ok (.aload_n 0, 1) := by decide +kernel
theorem dX5_copyStick_38 : decode cX5_copyStick 38 = .ok (.getfield 48, 3) := by decide +kernel
theorem dX5_copyStick_41 : decode cX5_copyStick 41 = .ok (.iload_n 1, 1) := by decide +kernel
theorem dX5_copyStick_42 : decode cX5_copyStick 42 = .ok (.invokevirtual 83, 3) := by decide +kernel
theorem dX5_copyStick_45 : decode cX5_copyStick 45 = .ok (.invokevirtual 63, 3) := by decide +kernel
theorem dX5_copyStick_48 : decode cX5_copyStick 48 = .ok (.iconst 0, 1) := by decide +kernel
theorem dX5_copyStick_49 : decode cX5_copyStick 49 = .ok (.istore_n 3, 1) := by decide +kernel
theorem dX5_copyStick_50 : decode cX5_copyStick 50 = .ok (.iload_n 3, 1) := by decide +kernel
theorem dX5_copyStick_51 : decode cX5_copyStick 51 = .ok (.bipush 10, 2) := by decide +kernel
theorem dX5_copyStick_53 : decode cX5_copyStick 53 = .ok (.if_icmp .ge 28, 3) := by decide +kernel
theorem dX5_copyStick_56 : decode cX5_copyStick 56 = .ok (.aload_n 0, 1) := by decide +kernel
theorem dX5_copyStick_57 : decode cX5_copyStick 57 = .ok (.getfield 51, 3) := by decide +kernel
theorem dX5_copyStick_60 : decode cX5_copyStick 60 = .ok (.iload_n 2, 1) := by decide +kernel
theorem dX5_copyStick_61 : decode cX5_copyStick 61 = .ok (.bipush 10, 2) := by decide +kernel
theorem dX5_copyStick_63 : decode cX5_copyStick 63 = .ok (.imul, 1) := by decide +kernel
theorem dX5_copyStick_64 : decode cX5_copyStick 64 = .ok (.iload_n 3, 1) := by decide +kernel
theorem dX5_copyStick_65 : decode cX5_copyStick 65 = .ok (.iadd, 1) := by decide +kernel
theorem dX5_copyStick_66 : decode cX5_copyStick 66 = .ok (.aload_n 0, 1) := by decide +kernel
theorem dX5_copyStick_67 : decode cX5_copyStick 67 = .ok (.iload_n 1, 1) := by decide +kernel
theorem dX5_copyStick_68 : decode cX5_copyStick 68 = .ok (.iload_n 3, 1) := by decide +kernel
theorem dX5_copyStick_69 : decode cX5_copyStick 69 = .ok (.invokevirtual 87, 3) := by decide +kernel
theorem dX5_copyStick_72 : decode cX5_copyStick 72 = .ok (.invokevirtual 63, 3) := by decide +kernel
theorem dX5_copyStick_75 : decode cX5_copyStick 75 = .ok (.iinc 3 1, 3) := by decide +kernel
theorem dX5_copyStick_78 : decode cX5_copyStick 78 = .ok (.goto (-28), 3) := by decide +kernel
theorem dX5_copyStick_81 : decode cX5_copyStick 81 = .ok (.return_, 1) := by decide +kernel
theorem dX5_stickNotch_0 : decode cX5_stickNotch 0 = .ok (.aload_n 0, 1) := by decide +kernel
theorem dX5_stickNotch_1 : decode cX5_stickNotch 1 = .ok (.getfield 51, 3) := by decide +kernel
theorem dX5_stickNotch_4 : decode cX5_stickNotch 4 = .ok (.iload_n 1, 1) := by decide +kernel
theorem dX5_stickNotch_5 : decode cX5_stickNotch 5 = .ok (.bipush 10, 2) := by decide +kernel
theorem dX5_stickNotch_7 : decode cX5_stickNotch 7 = .ok (.imul, 1) := by decide +kernel
theorem dX5_stickNotch_8 : decode cX5_stickNotch 8 = .ok (.iload_n 2, 1) := by decide +kernel
theorem dX5_stickNotch_9 : decode cX5_stickNotch 9 = .ok (.iadd, 1) := by decide +kernel
theorem dX5_stickNotch_10 : decode cX5_stickNotch 10 = .ok (.invokevirtual 83, 3) := by decide +kernel
theorem dX5_stickNotch_13 : decode cX5_stickNotch 13 = .ok (.ireturn, 1) := by decide +kernel
theorem dX5_notchesOfStick_0 : decode cX5_notchesOfStick 0 = .ok (.iconst 0, 1) := by decide +kernel
theorem dX5_notchesOfStick_1 : decode cX5_notchesOfStick 1 = .ok (.istore_n 2, 1) := by decide +kernel
theorem dX5_notchesOfStick_2 : decode cX5_notchesOfStick 2 = .ok (.iconst 0, 1) := by decide +kernel
theorem dX5_notchesOfStick_3 : decode cX5_notchesOfStick 3 = .ok (.istore_n 3, 1) := by decide +kernel
theorem dX5_notchesOfStick_4 : decode cX5_notchesOfStick 4 = .ok (.iload_n 3, 1) := by decide +kernel
theorem dX5_notchesOfStick_5 : decode cX5_notchesOfStick 5 = .ok (.bipush 10, 2) := by decide +kernel
theorem dX5_notchesOfStick_7 : decode cX5_notchesOfStick 7 = .ok (.if_icmp .ge 22, 3) := by decide +kernel
theorem dX5_notchesOfStick_10 : decode cX5_notchesOfStick 10 = .ok (.aload_n 0, 1) := by decide +kernel
theorem dX5_notchesOfStick_11 : decode cX5_notchesOfStick 11 = .ok (.iload_n 1, 1) := by decide +kernel
theorem dX5_notchesOfStick_12 : decode cX5_notchesOfStick 12 = .ok (.iload_n 3, 1) := by decide +kernel
theorem dX5_notchesOfStick_13 : decode cX5_notchesOfStick 13 = .ok (.invokevirtual 87, 3) := by decide +kernel
theorem dX5_notchesOfStick_16 : decode cX5_notchesOfStick 16 = .ok (.iconst (-1), 1) := by decide +kernel
theorem dX5_notchesOfStick_17 : decode cX5_notchesOfStick 17 = .ok (.if_icmp .eq 6, 3) := by decide +kernel
theorem dX5_notchesOfStick_20 : decode cX5_notchesOfStick 20 = .ok (.iinc 2 1, 3) := by decide +kernel
theorem dX5_notchesOfStick_23 : decode cX5_notchesOfStick 23 = .ok (.iinc 3 1, 3) := by decide +kernel
theorem dX5_notchesOfStick_26 : decode cX5_notchesOfStick 26 = .ok (.goto (-22), 3) := by decide +kernel
theorem dX5_notchesOfStick_29 : decode cX5_notchesOfStick 29 = .ok (.iload_n 2, 1) := by decide +kernel
theorem dX5_notchesOfStick_30 : decode cX5_notchesOfStick 30 = .ok (.ireturn, 1) := by decide +kernel
theorem dX6_init_0 : decode cX6_init 0 = .ok (.aload_n 0, 1) := by decide +kernel
theorem dX6_init_1 : decode cX6_init 1 = .ok (.invokespecial 3, 3) := by decide +kernel
theorem dX6_init_4 : decode cX6_init 4 = .ok (.aload_n 0, 1) := by decide +kernel
theorem dX6_init_5 : decode cX6_init 5 = .ok (.new 9, 3) := by decide +kernel
theorem dX6_init_8 : decode cX6_init 8 = .ok (.dup, 1) := by decide +kernel
theorem dX6_init_9 : decode cX6_init 9 = .ok (.invokespecial 11, 3) := by decide +kernel
theorem dX6_init_12 : decode cX6_init 12 = .ok (.putfield 12, 3) := by decide +kernel
theorem dX6_init_15 : decode cX6_init 15 = .ok (.aload_n 0, 1) := by decide +kernel
theorem dX6_init_16 : decode cX6_init 16 = .ok (.new 16, 3) := by decide +kernel
theorem dX6_init_19 : decode cX6_init 19 = .ok (.dup, 1) := by decide +kernel
theorem dX6_init_20 : decode cX6_init 20 = .ok (.invokespecial 18, 3) := by decide +kernel
theorem dX6_init_23 : decode cX6_init 23 = .ok (.putfield 19, 3) := by decide +kernel
theorem dX6_init_26 : decode cX6_init 26 = .ok (.aload_n 0, 1) := by decide +kernel
theorem dX6_init_27 : decode cX6_init 27 = .ok (.new 23, 3) := by decide +kernel
theorem dX6_init_30 : decode cX6_init 30 = .ok (.dup, 1) := by decide +kernel
theorem dX6_init_31 : decode cX6_init 31 = .ok (.bipush 60, 2) := by decide +kernel
theorem dX6_init_33 : decode cX6_init 33 = .ok (.invokespecial 25, 3) := by decide +kernel
theorem dX6_init_36 : decode cX6_init 36 = .ok (.putfield 28, 3) := by decide +kernel
theorem dX6_init_39 : decode cX6_init 39 = .ok (.aload_n 0, 1) := by decide +kernel
theorem dX6_init_40 : decode cX6_init 40 = .ok (.new 32, 3) := by decide +kernel
theorem dX6_init_43 : decode cX6_init 43 = .ok (.dup, 1) := by decide +kernel
theorem dX6_init_44 : decode cX6_init 44 = .ok (.invokespecial 34, 3) := by decide +kernel
theorem dX6_init_47 : decode cX6_init 47 = .ok (.putfield 35, 3) := by decide +kernel
theorem dX6_init_50 : decode cX6_init 50 = .ok (.aload_n 0, 1) := by decide +kernel
theorem dX6_init_51 : decode cX6_init 51 = .ok (.new 39, 3) := by decide +kernel
theorem dX6_init_54 : decode cX6_init 54 = .ok (.dup, 1) := by decide +kernel
theorem dX6_init_55 : decode cX6_init 55 = .ok (.invokespecial 41, 3) := by decide +kernel
theorem dX6_init_58 : decode cX6_init 58 = .ok (.putfield 42, 3) := by decide +kernel
theorem dX6_init_61 : decode cX6_init 61 = .ok (.aload_n 0, 1) := by decide +kernel
theorem dX6_init_62 : decode cX6_init 62 = .ok (.new 46, 3) := by decide +kernel
theorem dX6_init_65 : decode cX6_init 65 = .ok (.dup, 1) := by decide +kernel
theorem dX6_init_66 : decode cX6_init 66 = .ok (.invokespecial 48, 3) := by decide +kernel
theorem dX6_init_69 : decode cX6_init 69 = .ok (.putfield 49, 3) := by decide +kernel
theorem dX6_init_72 : decode cX6_init 72 = .ok (.aload_n 0, 1) := by decide +kernel
theorem dX6_init_73 : decode cX6_init 73 = .ok (.new 46, 3) := by decide +kernel
theorem dX6_init_76 : decode cX6_init 76 = .ok (.dup, 1) := by decide +kernel
theorem dX6_init_77 : decode cX6_init 77 = .ok (.invokespecial 48, 3) := by decide +kernel
theorem dX6_init_80 : decode cX6_init 80 = .ok (.putfield 53, 3) := by decide +kernel
theorem dX6_init_83 : decode cX6_init 83 = .ok (.aload_n 0, 1) := by decide +kernel
theorem dX6_init_84 : decode cX6_init 84 = .ok (.getstatic 56, 3) := by decide +kernel
theorem dX6_init_87 : decode cX6_init 87 = .ok (.arraylength, 1) := by decide +kernel
theorem dX6_init_88 : decode cX6_init 88 = .ok (.anewarray 46, 3) := by decide +kernel
theorem dX6_init_91 : decode cX6_init 91 = .ok (.putfield 60, 3) := by decide +kernel
theorem dX6_init_94 : decode cX6_init 94 = .ok (.aload_n 0, 1) := by decide +kernel
theorem dX6_init_95 : decode cX6_init 95 = .ok (.iconst 0, 1) := by decide +kernel
theorem dX6_init_96 : decode cX6_init 96 = .ok (.putfield 64, 3) := by decide +kernel
theorem dX6_init_99 : decode cX6_init 99 = .ok (.iconst 0, 1) := by decide +kernel
theorem dX6_init_100 : decode cX6_init 100 = .ok (.istore_n 1, 1) := by decide +kernel
theorem dX6_init_101 : decode cX6_init 101 = .ok (.iload_n 1, 1) := by decide +kernel
theorem dX6_init_102 : decode cX6_init 102 = .ok (.aload_n 0, 1) := by decide +kernel
theorem dX6_init_103 : decode cX6_init 103 = .ok (.getfield 60, 3) := by decide +kernel
theorem dX6_init_106 : decode cX6_init 106 = .ok (.arraylength, 1) := by decide +kernel
theorem dX6_init_107 : decode cX6_init 107 = .ok (.if_icmp .ge 22, 3) := by decide +kernel
theorem dX6_init_110 : decode cX6_init 110 = .ok (.aload_n 0, 1) := by decide +kernel
theorem dX6_init_111 : decode cX6_init 111 = .ok (.getfield 60, 3) := by decide +kernel
theorem dX6_init_114 : decode cX6_init 114 = .ok (.iload_n 1, 1) := by decide +kernel
theorem dX6_init_115 : decode cX6_init 115 = .ok (.new 46, 3) := by decide +kernel
theorem dX6_init_118 : decode cX6_init 118 = .ok (.dup, 1) := by decide +kernel
theorem dX6_init_119 : decode cX6_init 119 = .ok (.invokespecial 48, 3) := by decide +kernel
theorem dX6_init_122 : decode cX6_init 122 = .ok (.aastore, 1) := by decide +kernel
theorem dX6_init_123 : decode cX6_init 123 = .ok (.iinc 1 1, 3) := by decide +kernel
theorem dX6_init_126 : decode cX6_init 126 = .ok (.goto (-25), 3) := by decide +kernel
theorem dX6_init_129 : decode cX6_init 129 = .ok (.return_, 1) := by decide +kernel
theorem dX6_proclaim_0 : decode cX6_proclaim 0 = .ok (.aload_n 0, 1) := by decide +kernel
theorem dX6_proclaim_1 : decode cX6_proclaim 1 = .ok (.invokevirtual 68, 3) := by decide +kernel
theorem dX6_proclaim_4 : decode cX6_proclaim 4 = .ok (.ifCond .ne 13, 3) := by decide +kernel
theorem dX6_proclaim_7 : decode cX6_proclaim 7 = .ok (.new 72, 3) := by decide +kernel
theorem dX6_proclaim_10 : decode cX6_proclaim 10 = .ok (.dup, 1) := by decide +kernel
theorem dX6_proclaim_11 : decode cX6_proclaim 11 = .ok (.ldc 74, 2) := by decide +kernel
theorem dX6_proclaim_13 : decode cX6_proclaim 13 = .ok (.invokespecial 76, 3) := by decide +kernel
theorem dX6_proclaim_16 : decode cX6_proclaim 16 = .ok (.athrow, 1) := by decide +kernel
theorem dX6_proclaim_17 : decode cX6_proclaim 17 = .ok (.aload_n 0, 1) := by decide +kernel
theorem dX6_proclaim_18 : decode cX6_proclaim 18 = .ok (.getfield 19, 3) := by decide +kernel
theorem dX6_proclaim_21 : decode cX6_proclaim 21 = .ok (.aload_n 0, 1) := by decide +kernel
theorem dX6_proclaim_22 : decode cX6_proclaim 22 = .ok (.getfield 12, 3) := by decide +kernel
theorem dX6_proclaim_25 : decode cX6_proclaim 25 = .ok (.invokevirtual 79, 3) := by decide +kernel
theorem dX6_proclaim_28 : decode cX6_proclaim 28 = .ok (.aload_n 0, 1) := by decide +kernel
theorem dX6_proclaim_29 : decode cX6_proclaim 29 = .ok (.invokevirtual 83, 3) := by decide +kernel
theorem dX6_proclaim_32 : decode cX6_proclaim 32 = .ok (.istore_n 1, 1) := by decide +kernel
theorem dX6_proclaim_33 : decode cX6_proclaim 33 = .ok (.aload_n 0, 1) := by decide +kernel
theorem dX6_proclaim_34 : decode cX6_proclaim 34 = .ok (.iconst 0, 1) := by decide +kernel
theorem dX6_proclaim_35 : decode cX6_proclaim 35 = .ok (.putfield 64, 3) := by decide +kernel
theorem dX6_proclaim_38 : decode cX6_proclaim 38 = .ok (.iload_n 1, 1) := by decide +kernel
theorem dX6_proclaim_39 : decode cX6_proclaim 39 = .ok (.ireturn, 1) := by decide +kernel
theorem dX6_forget_0 : decode cX6_forget 0 = .ok (.aload_n 0, 1) := by decide +kernel
theorem dX6_forget_1 : decode cX6_forget 1 = .ok (.getfield 12, 3) := by decide +kernel
theorem dX6_forget_4 : decode cX6_forget 4 = .ok (.getfield 87, 3) := by decide +kernel
theorem dX6_forget_7 : decode cX6_forget 7 = .ok (.ifCond .gt 13, 3) := by decide +kernel
theorem dX6_forget_10 : decode cX6_forget 10 = .ok (.new 90, 3) := by decide +kernel
theorem dX6_forget_13 : decode cX6_forget 13 = .ok (.dup, 1) := by decide +kernel
theorem dX6_forget_14 : decode cX6_forget 14 = .ok (.ldc 92, 2) := by decide +kernel
theorem dX6_forget_16 : decode cX6_forget 16 = .ok (.invokespecial 94, 3) := by decide +kernel
theorem dX6_forget_19 : decode cX6_forget 19 = .ok (.athrow, 1) := by decide +kernel
theorem dX6_forget_20 : decode cX6_forget 20 = .ok (.aload_n 0, 1) := by decide +kernel
theorem dX6_forget_21 : decode cX6_forget 21 = .ok (.getfield 19, 3) := by decide +kernel
theorem dX6_forget_24 : decode cX6_forget 24 = .ok (.aload_n 0, 1) := by decide +kernel
theorem dX6_forget_25 : decode cX6_forget 25 = .ok (.getfield 12, 3) := by decide +kernel
theorem dX6_forget_28 : decode cX6_forget 28 = .ok (.invokevirtual 79, 3) := by decide +kernel
theorem dX6_forget_31 : decode cX6_forget 31 = .ok (.aload_n 0, 1) := by decide +kernel
theorem dX6_forget_32 : decode cX6_forget 32 = .ok (.getfield 12, 3) := by decide +kernel
theorem dX6_forget_35 : decode cX6_forget 35 = .ok (.dup, 1) := by decide +kernel
theorem dX6_forget_36 : decode cX6_forget 36 = .ok (.getfield 87, 3) := by decide +kernel
theorem dX6_forget_39 : decode cX6_forget 39 = .ok (.iconst 1, 1) := by decide +kernel
theorem dX6_forget_40 : decode cX6_forget 40 = .ok (.isub, 1) := by decide +kernel
theorem dX6_forget_41 : decode cX6_forget 41 = .ok (.putfield 87, 3) := by decide +kernel
theorem dX6_forget_44 : decode cX6_forget 44 = .ok (.aload_n 0, 1) := by decide +kernel
theorem dX6_forget_45 : decode cX6_forget 45 = .ok (.getfield 12, 3) := by decide +kernel
theorem dX6_forget_48 : decode cX6_forget 48 = .ok (.getfield 87, 3) := by decide +kernel
theorem dX6_forget_51 : decode cX6_forget 51 = .ok (.ireturn, 1) := by decide +kernel
theorem dX6_rank_0 : decode cX6_rank 0 = .ok (.aload_n 0, 1) := by decide +kernel
theorem dX6_rank_1 : decode cX6_rank 1 = .ok (.iload_n 1, 1) := by decide +kernel
theorem dX6_rank_2 : decode cX6_rank 2 = .ok (.invokevirtual 95, 3) := by decide +kernel
theorem dX6_rank_5 : decode cX6_rank 5 = .ok (.iload_n 2, 1) := by decide +kernel
theorem dX6_rank_6 : decode cX6_rank 6 = .ok (.iconst 0, 1) := by decide +kernel
theorem dX6_rank_7 : decode cX6_rank 7 = .ok (.bipush 9, 2) := by decide +kernel
theorem dX6_rank_9 : decode cX6_rank 9 = .ok (.invokestatic 98, 3) := by decide +kernel
theorem dX6_rank_12 : decode cX6_rank 12 = .ok (.aload_n 0, 1) := by decide +kernel
theorem dX6_rank_13 : decode cX6_rank 13 = .ok (.getfield 19, 3) := by decide +kernel
theorem dX6_rank_16 : decode cX6_rank 16 = .ok (.aload_n 0, 1) := by decide +kernel
theorem dX6_rank_17 : decode cX6_rank 17 = .ok (.getfield 12, 3) := by decide +kernel
theorem dX6_rank_20 : decode cX6_rank 20 = .ok (.invokevirtual 79, 3) := by decide +kernel
theorem dX6_rank_23 : decode cX6_rank 23 = .ok (.aload_n 0, 1) := by decide +kernel
theorem dX6_rank_24 : decode cX6_rank 24 = .ok (.getfield 12, 3) := by decide +kernel
theorem dX6_rank_27 : decode cX6_rank 27 = .ok (.getfield 102, 3) := by decide +kernel
theorem dX6_rank_30 : decode cX6_rank 30 = .ok (.iload_n 1, 1) := by decide +kernel
theorem dX6_rank_31 : decode cX6_rank 31 = .ok (.invokevirtual 105, 3) := by decide +kernel
theorem dX6_rank_34 : decode cX6_rank 34 = .ok (.istore_n 3, 1) := by decide +kernel
theorem dX6_rank_35 : decode cX6_rank 35 = .ok (.aload_n 0, 1) := by decide +kernel
theorem dX6_rank_36 : decode cX6_rank 36 = .ok (.getfield 12, 3) := by decide +kernel
theorem dX6_rank_39 : decode cX6_rank 39 = .ok (.getfield 102, 3) := by decide +kernel
theorem dX6_rank_42 : decode cX6_rank 42 = .ok (.iload_n 1, 1) := by decide +kernel
theorem dX6_rank_43 : decode cX6_rank 43 = .ok (.iload_n 2, 1) := by decide +kernel
theorem dX6_rank_44 : decode cX6_rank 44 = .ok (.invokevirtual 109, 3) := by decide +kernel
theorem dX6_rank_47 : decode cX6_rank 47 = .ok (.iload_n 3, 1) := by decide +kernel
theorem dX6_rank_48 : decode cX6_rank 48 = .ok (.ireturn, 1) := by decide +kernel
theorem dX6_teach_0 : decode cX6_teach 0 = .ok (.iload_n 1, 1) := by decide +kernel
theorem dX6_teach_1 : decode cX6_teach 1 = .ok (.invokestatic 113, 3) := by decide +kernel
theorem dX6_teach_4 : decode cX6_teach 4 = .ok (.iload_n 2, 1) := by decide +kernel
theorem dX6_teach_5 : decode cX6_teach 5 = .ok (.bipush (-5), 2) := by decide +kernel
theorem dX6_teach_7 : decode cX6_teach 7 = .ok (.iconst 5, 1) := by decide +kernel
theorem dX6_teach_8 : decode cX6_teach 8 = .ok (.invokestatic 98, 3) := by decide +kernel
theorem dX6_teach_11 : decode cX6_teach 11 = .ok (.aload_n 0, 1) := by decide +kernel
theorem dX6_teach_12 : decode cX6_teach 12 = .ok (.getfield 19, 3) := by decide +kernel
theorem dX6_teach_15 : decode cX6_teach 15 = .ok (.aload_n 0, 1) := by decide +kernel
theorem dX6_teach_16 : decode cX6_teach 16 = .ok (.getfield 12, 3) := by decide +kernel
theorem dX6_teach_19 : decode cX6_teach 19 = .ok (.invokevirtual 79, 3) := by decide +kernel
theorem dX6_teach_22 : decode cX6_teach 22 = .ok (.aload_n 0, 1) := by decide +kernel
theorem dX6_teach_23 : decode cX6_teach 23 = .ok (.getfield 12, 3) := by decide +kernel
theorem dX6_teach_26 : decode cX6_teach 26 = .ok (.getfield 116, 3) := by decide +kernel
theorem dX6_teach_29 : decode cX6_teach 29 = .ok (.iload_n 1, 1) := by decide +kernel
theorem dX6_teach_30 : decode cX6_teach 30 = .ok (.invokevirtual 105, 3) := by decide +kernel
theorem dX6_teach_33 : decode cX6_teach 33 = .ok (.istore_n 3, 1) := by decide +kernel
theorem dX6_teach_34 : decode cX6_teach 34 = .ok (.aload_n 0, 1) := by decide +kernel
theorem dX6_teach_35 : decode cX6_teach 35 = .ok (.getfield 12, 3) := by decide +kernel
theorem dX6_teach_38 : decode cX6_teach 38 = .ok (.getfield 116, 3) := by decide +kernel
theorem dX6_teach_41 : decode cX6_teach 41 = .ok (.iload_n 1, 1) := by decide +kernel
theorem dX6_teach_42 : decode cX6_teach 42 = .ok (.iload_n 2, 1) := by decide +kernel
theorem dX6_teach_43 : decode cX6_teach 43 = .ok (.invokevirtual 109, 3) := by decide +kernel
theorem dX6_teach_46 : decode cX6_teach 46 = .ok (.iload_n 3, 1) := by decide +kernel
theorem dX6_teach_47 : decode cX6_teach 47 = .ok (.iconst 5, 1) := by decide +kernel
theorem dX6_teach_48 : decode cX6_teach 48 = .ok (.iadd, 1) := by decide +kernel
theorem dX6_teach_49 : decode cX6_teach 49 = .ok (.ireturn, 1) := by decide +kernel
theorem dX6_carve_0 : decode cX6_carve 0 = .ok (.iload_n 1, 1) := by decide +kernel
theorem dX6_carve_1 : decode cX6_carve 1 = .ok (.invokestatic 119, 3) := by decide +kernel
theorem dX6_carve_4 : decode cX6_carve 4 = .ok (.iload_n 2, 1) := by decide +kernel
theorem dX6_carve_5 : decode cX6_carve 5 = .ok (.invokestatic 113, 3) := by decide +kernel
theorem dX6_carve_8 : decode cX6_carve 8 = .ok (.aload_n 0, 1) := by decide +kernel
theorem dX6_carve_9 : decode cX6_carve 9 = .ok (.getfield 19, 3) := by decide +kernel
theorem dX6_carve_12 : decode cX6_carve 12 = .ok (.aload_n 0, 1) := by decide +kernel
theorem dX6_carve_13 : decode cX6_carve 13 = .ok (.getfield 12, 3) := by decide +kernel
theorem dX6_carve_16 : decode cX6_carve 16 = .ok (.invokevirtual 79, 3) := by decide +kernel
theorem dX6_carve_19 : decode cX6_carve 19 = .ok (.aload_n 0, 1) := by decide +kernel
theorem dX6_carve_20 : decode cX6_carve 20 = .ok (.getfield 42, 3) := by decide +kernel
theorem dX6_carve_23 : decode cX6_carve 23 = .ok (.aload_n 0, 1) := by decide +kernel
theorem dX6_carve_24 : decode cX6_carve 24 = .ok (.getfield 12, 3) := by decide +kernel
theorem dX6_carve_27 : decode cX6_carve 27 = .ok (.iload_n 1, 1) := by decide +kernel
theorem dX6_carve_28 : decode cX6_carve 28 = .ok (.aload_n 0, 1) := by decide +kernel
theorem dX6_carve_29 : decode cX6_carve 29 = .ok (.getfield 12, 3) := by decide +kernel
theorem dX6_carve_32 : decode cX6_carve 32 = .ok (.getfield 116, 3) := by decide +kernel
theorem dX6_carve_35 : decode cX6_carve 35 = .ok (.iload_n 2, 1) := by decide +kernel
theorem dX6_carve_36 : decode cX6_carve 36 = .ok (.invokevirtual 105, 3) := by decide +kernel
theorem dX6_carve_39 : decode cX6_carve 39 = .ok (.invokevirtual 122, 3) := by decide +kernel
theorem dX6_carve_42 : decode cX6_carve 42 = .ok (.aload_n 0, 1) := by decide +kernel
theorem dX6_carve_43 : decode cX6_carve 43 = .ok (.getfield 12, 3) := by decide +kernel
theorem dX6_carve_46 : decode cX6_carve 46 = .ok (.iload_n 1, 1) := by decide +kernel
theorem dX6_carve_47 : decode cX6_carve 47 = .ok (.iload_n 2, 1) := by decide +kernel
theorem dX6_carve_48 : decode cX6_carve 48 = .ok (.aload_n 0, 1) := by decide +kernel
theorem dX6_carve_49 : decode cX6_carve 49 = .ok (.getfield 42, 3) := by decide +kernel
theorem dX6_carve_52 : decode cX6_carve 52 = .ok (.getfield 126, 3) := by decide +kernel
theorem dX6_carve_55 : decode cX6_carve 55 = .ok (.invokevirtual 129, 3) := by decide +kernel
theorem dX6_carve_58 : decode cX6_carve 58 = .ok (.aload_n 0, 1) := by decide +kernel
theorem dX6_carve_59 : decode cX6_carve 59 = .ok (.getfield 12, 3) := by decide +kernel
theorem dX6_carve_62 : decode cX6_carve 62 = .ok (.iconst 0, 1) := by decide +kernel
theorem dX6_carve_63 : decode cX6_carve 63 = .ok (.invokevirtual 133, 3) := by decide +kernel
theorem dX6_carve_66 : decode cX6_carve 66 = .ok (.ireturn, 1) := by decide +kernel
theorem dX6_burn_0 : decode cX6_burn 0 = .ok (.aload_n 0, 1) := by decide +kernel
theorem dX6_burn_1 : decode cX6_burn 1 = .ok (.iload_n 1, 1) := by decide +kernel
theorem dX6_burn_2 : decode cX6_burn 2 = .ok (.invokevirtual 136, 3) := by decide +kernel
theorem dX6_burn_5 : decode cX6_burn 5 = .ok (.aload_n 0, 1) := by decide +kernel
theorem dX6_burn_6 : decode cX6_burn 6 = .ok (.getfield 19, 3) := by decide +kernel
theorem dX6_burn_9 : decode cX6_burn 9 = .ok (.aload_n 0, 1) := by decide +kernel
theorem dX6_burn_10 : decode cX6_burn 10 = .ok (.getfield 12, 3) := by decide +kernel
theorem dX6_burn_13 : decode cX6_burn 13 = .ok (.invokevirtual 79, 3) := by decide +kernel
theorem dX6_burn_16 : decode cX6_burn 16 = .ok (.aload_n 0, 1) := by decide +kernel
theorem dX6_burn_17 : decode cX6_burn 17 = .ok (.getfield 12, 3) := by decide +kernel
theorem dX6_burn_20 : decode cX6_burn 20 = .ok (.getfield 139, 3) := by decide +kernel
theorem dX6_burn_23 : decode cX6_burn 23 = .ok (.iload_n 1, 1) := by decide +kernel
theorem dX6_burn_24 : decode cX6_burn 24 = .ok (.invokevirtual 105, 3) := by decide +kernel
theorem dX6_burn_27 : decode cX6_burn 27 = .ok (.istore_n 2, 1) := by decide +kernel
theorem dX6_burn_28 : decode cX6_burn 28 = .ok (.aload_n 0, 1) := by decide +kernel
theorem dX6_burn_29 : decode cX6_burn 29 = .ok (.getfield 12, 3) := by decide +kernel
theorem dX6_burn_32 : decode cX6_burn 32 = .ok (.iload_n 1, 1) := by decide +kernel
theorem dX6_burn_33 : decode cX6_burn 33 = .ok (.invokevirtual 142, 3) := by decide +kernel
theorem dX6_burn_36 : decode cX6_burn 36 = .ok (.iload_n 2, 1) := by decide +kernel
theorem dX6_burn_37 : decode cX6_burn 37 = .ok (.ireturn, 1) := by decide +kernel
theorem dX6_set_0 : decode cX6_set 0 = .ok (.iload_n 1, 1) := by decide +kernel
theorem dX6_set_1 : decode cX6_set 1 = .ok (.bipush 50, 2) := by decide +kernel
theorem dX6_set_3 : decode cX6_set 3 = .ok (.sipush 400, 3) := by decide +kernel
theorem dX6_set_6 : decode cX6_set 6 = .ok (.invokestatic 98, 3) := by decide +kernel
theorem dX6_set_9 : decode cX6_set 9 = .ok (.aload_n 0, 1) := by decide +kernel
theorem dX6_set_10 : decode cX6_set 10 = .ok (.getfield 19, 3) := by decide +kernel
theorem dX6_set_13 : decode cX6_set 13 = .ok (.aload_n 0, 1) := by decide +kernel
theorem dX6_set_14 : decode cX6_set 14 = .ok (.getfield 12, 3) := by decide +kernel
theorem dX6_set_17 : decode cX6_set 17 = .ok (.invokevirtual 79, 3) := by decide +kernel
theorem dX6_set_20 : decode cX6_set 20 = .ok (.aload_n 0, 1) := by decide +kernel
theorem dX6_set_21 : decode cX6_set 21 = .ok (.getfield 12, 3) := by decide +kernel
theorem dX6_set_24 : decode cX6_set 24 = .ok (.getfield 145, 3) := by decide +kernel
theorem dX6_set_27 : decode cX6_set 27 = .ok (.istore_n 2, 1) := by decide +kernel
theorem dX6_set_28 : decode cX6_set 28 = .ok (.aload_n 0, 1) := by decide +kernel
theorem dX6_set_29 : decode cX6_set 29 = .ok (.getfield 12, 3) := by decide +kernel
theorem dX6_set_32 : decode cX6_set 32 = .ok (.iload_n 1, 1) := by decide +kernel
theorem dX6_set_33 : decode cX6_set 33 = .ok (.putfield 145, 3) := by decide +kernel
theorem dX6_set_36 : decode cX6_set 36 = .ok (.iload_n 2, 1) := by decide +kernel
theorem dX6_set_37 : decode cX6_set 37 = .ok (.ireturn, 1) := by decide +kernel
theorem dX6_append_0 : decode cX6_append 0 = .ok (.iload_n 1, 1) := by decide +kernel
theorem dX6_append_1 : decode cX6_append 1 = .ok (.bipush 33, 2) := by decide +kernel
theorem dX6_append_3 : decode cX6_append 3 = .ok (.bipush 126, 2) := by decide +kernel
theorem dX6_append_5 : decode cX6_append 5 = .ok (.invokestatic 98, 3) := by decide +kernel
theorem dX6_append_8 : decode cX6_append 8 = .ok (.aload_n 0, 1) := by decide +kernel
theorem dX6_append_9 : decode cX6_append 9 = .ok (.getfield 64, 3) := by decide +kernel
theorem dX6_append_12 : decode cX6_append 12 = .ok (.bipush 60, 2) := by decide +kernel
theorem dX6_append_14 : decode cX6_append 14 = .ok (.if_icmp .lt 13, 3) := by decide +kernel
theorem dX6_append_17 : decode cX6_append 17 = .ok (.new 90, 3) := by decide +kernel
theorem dX6_append_20 : decode cX6_append 20 = .ok (.dup, 1) := by decide +kernel
theorem dX6_append_21 : decode cX6_append 21 = .ok (.ldc 148, 2) := by decide +kernel
theorem dX6_append_23 : decode cX6_append 23 = .ok (.invokespecial 94, 3) := by decide +kernel
theorem dX6_append_26 : decode cX6_append 26 = .ok (.athrow, 1) := by decide +kernel
theorem dX6_append_27 : decode cX6_append 27 = .ok (.aload_n 0, 1) := by decide +kernel
theorem dX6_append_28 : decode cX6_append 28 = .ok (.getfield 28, 3) := by decide +kernel
theorem dX6_append_31 : decode cX6_append 31 = .ok (.aload_n 0, 1) := by decide +kernel
theorem dX6_append_32 : decode cX6_append 32 = .ok (.getfield 64, 3) := by decide +kernel
theorem dX6_append_35 : decode cX6_append 35 = .ok (.iload_n 1, 1) := by decide +kernel
theorem dX6_append_36 : decode cX6_append 36 = .ok (.invokevirtual 109, 3) := by decide +kernel
theorem dX6_append_39 : decode cX6_append 39 = .ok (.aload_n 0, 1) := by decide +kernel
theorem dX6_append_40 : decode cX6_append 40 = .ok (.dup, 1) := by decide +kernel
theorem dX6_append_41 : decode cX6_append 41 = .ok (.getfield 64, 3) := by decide +kernel
theorem dX6_append_44 : decode cX6_append 44 = .ok (.iconst 1, 1) := by decide +kernel
theorem dX6_append_45 : decode cX6_append 45 = .ok (.iadd, 1) := by decide +kernel
theorem dX6_append_46 : decode cX6_append 46 = .ok (.putfield 64, 3) := by decide +kernel
theorem dX6_append_49 : decode cX6_append 49 = .ok (.aload_n 0, 1) := by decide +kernel
theorem dX6_append_50 : decode cX6_append 50 = .ok (.getfield 64, 3) := by decide +kernel
theorem dX6_append_53 : decode cX6_append 53 = .ok (.ireturn, 1) := by decide +kernel
theorem dX6_clearBuffer_0 : decode cX6_clearBuffer 0 = .ok (.aload_n 0, 1) := by decide +kernel
theorem dX6_clearBuffer_1 : decode cX6_clearBuffer 1 = .ok (.getfield 64, 3) := by decide +kernel
theorem dX6_clearBuffer_4 : decode cX6_clearBuffer 4 = .ok (.istore_n 1, 1) := by decide +kernel
theorem dX6_clearBuffer_5 : decode cX6_clearBuffer 5 = .ok (.aload_n 0, 1) := by decide +kernel
theorem dX6_clearBuffer_6 : decode cX6_clearBuffer 6 = .ok (.iconst 0, 1) := by decide +kernel
theorem dX6_clearBuffer_7 : decode cX6_clearBuffer 7 = .ok (.putfield 64, 3) := by decide +kernel
theorem dX6_clearBuffer_10 : decode cX6_clearBuffer 10 = .ok (.iload_n 1, 1) := by decide +kernel
theorem dX6_clearBuffer_11 : decode cX6_clearBuffer 11 = .ok (.ireturn, 1) := by decide +kernel
theorem dX6_firstError_0 : decode cX6_firstError 0 = .ok (.aload_n 0, 1) := by decide +kernel
theorem dX6_firstError_1 : decode cX6_firstError 1 = .ok (.invokevirtual 150, 3) := by decide +kernel
theorem dX6_firstError_4 : decode cX6_firstError 4 = .ok (.ireturn, 1) := by decide +kernel
theorem dX6_undo_0 : decode cX6_undo 0 = .ok (.aload_n 0, 1) := by decide +kernel
theorem dX6_undo_1 : decode cX6_undo 1 = .ok (.getfield 19, 3) := by decide +kernel
theorem dX6_undo_4 : decode cX6_undo 4 = .ok (.invokevirtual 153, 3) := by decide +kernel
theorem dX6_undo_7 : decode cX6_undo 7 = .ok (.ifCond .eq 13, 3) := by decide +kernel
theorem dX6_undo_10 : decode cX6_undo 10 = .ok (.new 90, 3) := by decide +kernel
theorem dX6_undo_13 : decode cX6_undo 13 = .ok (.dup, 1) := by decide +kernel
theorem dX6_undo_14 : decode cX6_undo 14 = .ok (.ldc 156, 2) := by decide +kernel
theorem dX6_undo_16 : decode cX6_undo 16 = .ok (.invokespecial 94, 3) := by decide +kernel
theorem dX6_undo_19 : decode cX6_undo 19 = .ok (.athrow, 1) := by decide +kernel
theorem dX6_undo_20 : decode cX6_undo 20 = .ok (.aload_n 0, 1) := by decide +kernel
theorem dX6_undo_21 : decode cX6_undo 21 = .ok (.getfield 19, 3) := by decide +kernel
theorem dX6_undo_24 : decode cX6_undo 24 = .ok (.aload_n 0, 1) := by decide +kernel
theorem dX6_undo_25 : decode cX6_undo 25 = .ok (.getfield 12, 3) := by decide +kernel
theorem dX6_undo_28 : decode cX6_undo 28 = .ok (.invokevirtual 158, 3) := by decide +kernel
theorem dX6_undo_31 : decode cX6_undo 31 = .ok (.aload_n 0, 1) := by decide +kernel
theorem dX6_undo_32 : decode cX6_undo 32 = .ok (.getfield 19, 3) := by decide +kernel
theorem dX6_undo_35 : decode cX6_undo 35 = .ok (.invokevirtual 161, 3) := by decide +kernel
theorem dX6_undo_38 : decode cX6_undo 38 = .ok (.ireturn, 1) := by decide +kernel
theorem dX6_day_0 : decode cX6_day 0 = .ok (.iload_n 1, 1) := by decide +kernel
theorem dX6_day_1 : decode cX6_day 1 = .ok (.invokestatic 119, 3) := by decide +kernel
theorem dX6_day_4 : decode cX6_day 4 = .ok (.iload_n 2, 1) := by decide +kernel
theorem dX6_day_5 : decode cX6_day 5 = .ok (.iconst 0, 1) := by decide +kernel
theorem dX6_day_6 : decode cX6_day 6 = .ok (.sipush 365, 3) := by decide +kernel
theorem dX6_day_9 : decode cX6_day 9 = .ok (.invokestatic 98, 3) := by decide +kernel
theorem dX6_day_12 : decode cX6_day 12 = .ok (.iload_n 3, 1) := by decide +kernel
theorem dX6_day_13 : decode cX6_day 13 = .ok (.iconst 0, 1) := by decide +kernel
theorem dX6_day_14 : decode cX6_day 14 = .ok (.iconst 2, 1) := by decide +kernel
theorem dX6_day_15 : decode cX6_day 15 = .ok (.invokestatic 98, 3) := by decide +kernel
theorem dX6_day_18 : decode cX6_day 18 = .ok (.iload_n 2, 1) := by decide +kernel
theorem dX6_day_19 : decode cX6_day 19 = .ok (.iload_n 1, 1) := by decide +kernel
theorem dX6_day_20 : decode cX6_day 20 = .ok (.invokestatic 164, 3) := by decide +kernel
theorem dX6_day_23 : decode cX6_day 23 = .ok (.if_icmp .lt 5, 3) := by decide +kernel
theorem dX6_day_26 : decode cX6_day 26 = .ok (.iconst (-1), 1) := by decide +kernel
theorem dX6_day_27 : decode cX6_day 27 = .ok (.ireturn, 1) := by decide +kernel
theorem dX6_day_28 : decode cX6_day 28 = .ok (.iload_n 3, 1) := by decide +kernel
theorem dX6_day_29 : decode cX6_day 29 = .ok (.lookupswitch 64 #[(0, 27), (1, 37)], 27) := by decide +kernel
theorem dX6_day_56 : decode cX6_day 56 = .ok (.iload_n 1, 1) := by decide +kernel
theorem dX6_day_57 : decode cX6_day 57 = .ok (.invokestatic 167, 3) := by decide +kernel
theorem dX6_day_60 : decode cX6_day 60 = .ok (.iload_n 2, 1) := by decide +kernel
theorem dX6_day_61 : decode cX6_day 61 = .ok (.iadd, 1) := by decide +kernel
theorem dX6_day_62 : decode cX6_day 62 = .ok (.bipush 7, 2) := by decide +kernel
theorem dX6_day_64 : decode cX6_day 64 = .ok (.irem, 1) := by decide +kernel
theorem dX6_day_65 : decode cX6_day 65 = .ok (.ireturn, 1) := by decide +kernel
theorem dX6_day_66 : decode cX6_day 66 = .ok (.iload_n 1, 1) := by decide +kernel
theorem dX6_day_67 : decode cX6_day 67 = .ok (.aload_n 0, 1) := by decide +kernel
theorem dX6_day_68 : decode cX6_day 68 = .ok (.getfield 12, 3) := by decide +kernel
theorem dX6_day_71 : decode cX6_day 71 = .ok (.getfield 116, 3) := by decide +kernel
theorem dX6_day_74 : decode cX6_day 74 = .ok (.iconst 0, 1) := by decide +kernel
theorem dX6_day_75 : decode cX6_day 75 = .ok (.invokevirtual 105, 3) := by decide +kernel
theorem dX6_day_78 : decode cX6_day 78 = .ok (.aload_n 0, 1) := by decide +kernel
theorem dX6_day_79 : decode cX6_day 79 = .ok (.getfield 12, 3) := by decide +kernel
theorem dX6_day_82 : decode cX6_day 82 = .ok (.getfield 145, 3) := by decide +kernel
theorem dX6_day_85 : decode cX6_day 85 = .ok (.invokestatic 170, 3) := by decide +kernel
theorem dX6_day_88 : decode cX6_day 88 = .ok (.iload_n 2, 1) := by decide +kernel
theorem dX6_day_89 : decode cX6_day 89 = .ok (.invokestatic 174, 3) := by decide +kernel
theorem dX6_day_92 : decode cX6_day 92 = .ok (.ireturn, 1) := by decide +kernel
theorem dX6_day_93 : decode cX6_day 93 = .ok (.aload_n 0, 1) := by decide +kernel
theorem dX6_day_94 : decode cX6_day 94 = .ok (.iload_n 1, 1) := by decide +kernel
theorem dX6_day_95 : decode cX6_day 95 = .ok (.iload_n 2, 1) := by decide +kernel
theorem dX6_day_96 : decode cX6_day 96 = .ok (.invokevirtual 178, 3) := by decide +kernel
theorem dX6_day_99 : decode cX6_day 99 = .ok (.ireturn, 1) := by decide +kernel
theorem dX6_feast_0 : decode cX6_feast 0 = .ok (.aload_n 0, 1) := by decide +kernel
theorem dX6_feast_1 : decode cX6_feast 1 = .ok (.iload_n 1, 1) := by decide +kernel
theorem dX6_feast_2 : decode cX6_feast 2 = .ok (.invokevirtual 95, 3) := by decide +kernel
theorem dX6_feast_5 : decode cX6_feast 5 = .ok (.iload_n 2, 1) := by decide +kernel
theorem dX6_feast_6 : decode cX6_feast 6 = .ok (.iconst 0, 1) := by decide +kernel
theorem dX6_feast_7 : decode cX6_feast 7 = .ok (.iconst 3, 1) := by decide +kernel
theorem dX6_feast_8 : decode cX6_feast 8 = .ok (.invokestatic 98, 3) := by decide +kernel
theorem dX6_feast_11 : decode cX6_feast 11 = .ok (.aload_n 0, 1) := by decide +kernel
theorem dX6_feast_12 : decode cX6_feast 12 = .ok (.iload_n 1, 1) := by decide +kernel
theorem dX6_feast_13 : decode cX6_feast 13 = .ok (.iload_n 2, 1) := by decide +kernel
theorem dX6_feast_14 : decode cX6_feast 14 = .ok (.invokevirtual 181, 3) := by decide +kernel
theorem dX6_feast_17 : decode cX6_feast 17 = .ok (.ireturn, 1) := by decide +kernel
theorem dX6_when_0 : decode cX6_when 0 = .ok (.aload_n 0, 1) := by decide +kernel
theorem dX6_when_1 : decode cX6_when 1 = .ok (.iload_n 1, 1) := by decide +kernel
theorem dX6_when_2 : decode cX6_when 2 = .ok (.invokevirtual 95, 3) := by decide +kernel
theorem dX6_when_5 : decode cX6_when 5 = .ok (.iload_n 2, 1) := by decide +kernel
theorem dX6_when_6 : decode cX6_when 6 = .ok (.invokestatic 119, 3) := by decide +kernel
theorem dX6_when_9 : decode cX6_when 9 = .ok (.iload_n 3, 1) := by decide +kernel
theorem dX6_when_10 : decode cX6_when 10 = .ok (.invokestatic 113, 3) := by decide +kernel
theorem dX6_when_13 : decode cX6_when 13 = .ok (.aload_n 0, 1) := by decide +kernel
theorem dX6_when_14 : decode cX6_when 14 = .ok (.getfield 42, 3) := by decide +kernel
theorem dX6_when_17 : decode cX6_when 17 = .ok (.aload_n 0, 1) := by decide +kernel
theorem dX6_when_18 : decode cX6_when 18 = .ok (.getfield 12, 3) := by decide +kernel
theorem dX6_when_21 : decode cX6_when 21 = .ok (.iload_n 2, 1) := by decide +kernel
theorem dX6_when_22 : decode cX6_when 22 = .ok (.aload_n 0, 1) := by decide +kernel
theorem dX6_when_23 : decode cX6_when 23 = .ok (.getfield 12, 3) := by decide +kernel
theorem dX6_when_26 : decode cX6_when 26 = .ok (.getfield 116, 3) := by decide +kernel
theorem dX6_when_29 : decode cX6_when 29 = .ok (.iload_n 3, 1) := by decide +kernel
theorem dX6_when_30 : decode cX6_when 30 = .ok (.invokevirtual 105, 3) := by decide +kernel
theorem dX6_when_33 : decode cX6_when 33 = .ok (.invokevirtual 122, 3) := by decide +kernel
theorem dX6_when_36 : decode cX6_when 36 = .ok (.iload 4, 2) := by decide +kernel
theorem dX6_when_38 : decode cX6_when 38 = .ok (.ifCond .eq 17, 3) := by decide +kernel
theorem dX6_when_41 : decode cX6_when 41 = .ok (.aload_n 0, 1) := by decide +kernel
theorem dX6_when_42 : decode cX6_when 42 = .ok (.getfield 42, 3) := by decide +kernel
theorem dX6_when_45 : decode cX6_when 45 = .ok (.getfield 184, 3) := by decide +kernel
theorem dX6_when_48 : decode cX6_when 48 = .ok (.iload_n 1, 1) := by decide +kernel
theorem dX6_when_49 : decode cX6_when 49 = .ok (.invokevirtual 105, 3) := by decide +kernel
theorem dX6_when_52 : decode cX6_when 52 = .ok (.goto 14, 3) := by decide +kernel
theorem dX6_when_55 : decode cX6_when 55 = .ok (.aload_n 0, 1) := by decide +kernel
theorem dX6_when_56 : decode cX6_when 56 = .ok (.getfield 42, 3) := by decide +kernel
theorem dX6_when_59 : decode cX6_when 59 = .ok (.getfield 126, 3) := by decide +kernel
theorem dX6_when_62 : decode cX6_when 62 = .ok (.iload_n 1, 1) := by decide +kernel
theorem dX6_when_63 : decode cX6_when 63 = .ok (.invokevirtual 105, 3) := by decide +kernel
theorem dX6_when_66 : decode cX6_when 66 = .ok (.ireturn, 1) := by decide +kernel
theorem dX6_settled_0 : decode cX6_settled 0 = .ok (.aload_n 0, 1) := by decide +kernel
theorem dX6_settled_1 : decode cX6_settled 1 = .ok (.iload_n 1, 1) := by decide +kernel
theorem dX6_settled_2 : decode cX6_settled 2 = .ok (.invokevirtual 95, 3) := by decide +kernel
theorem dX6_settled_5 : decode cX6_settled 5 = .ok (.iload_n 2, 1) := by decide +kernel
theorem dX6_settled_6 : decode cX6_settled 6 = .ok (.invokestatic 119, 3) := by decide +kernel
theorem dX6_settled_9 : decode cX6_settled 9 = .ok (.aload_n 0, 1) := by decide +kernel
theorem dX6_settled_10 : decode cX6_settled 10 = .ok (.getfield 49, 3) := by decide +kernel
theorem dX6_settled_13 : decode cX6_settled 13 = .ok (.aload_n 0, 1) := by decide +kernel
theorem dX6_settled_14 : decode cX6_settled 14 = .ok (.getfield 12, 3) := by decide +kernel
theorem dX6_settled_17 : decode cX6_settled 17 = .ok (.iload_n 2, 1) := by decide +kernel
theorem dX6_settled_18 : decode cX6_settled 18 = .ok (.invokevirtual 187, 3) := by decide +kernel
theorem dX6_settled_21 : decode cX6_settled 21 = .ok (.aload_n 0, 1) := by decide +kernel
theorem dX6_settled_22 : decode cX6_settled 22 = .ok (.getfield 49, 3) := by decide +kernel
theorem dX6_settled_25 : decode cX6_settled 25 = .ok (.iload_n 1, 1) := by decide +kernel
theorem dX6_settled_26 : decode cX6_settled 26 = .ok (.invokevirtual 191, 3) := by decide +kernel
theorem dX6_settled_29 : decode cX6_settled 29 = .ok (.ireturn, 1) := by decide +kernel
theorem dX6_quarrels_0 : decode cX6_quarrels 0 = .ok (.iload_n 1, 1) := by decide +kernel
theorem dX6_quarrels_1 : decode cX6_quarrels 1 = .ok (.invokestatic 119, 3) := by decide +kernel
theorem dX6_quarrels_4 : decode cX6_quarrels 4 = .ok (.aload_n 0, 1) := by decide +kernel
theorem dX6_quarrels_5 : decode cX6_quarrels 5 = .ok (.getfield 49, 3) := by decide +kernel
theorem dX6_quarrels_8 : decode cX6_quarrels 8 = .ok (.aload_n 0, 1) := by decide +kernel
theorem dX6_quarrels_9 : decode cX6_quarrels 9 = .ok (.getfield 12, 3) := by decide +kernel
theorem dX6_quarrels_12 : decode cX6_quarrels 12 = .ok (.iload_n 1, 1) := by decide +kernel
theorem dX6_quarrels_13 : decode cX6_quarrels 13 = .ok (.invokevirtual 187, 3) := by decide +kernel
theorem dX6_quarrels_16 : decode cX6_quarrels 16 = .ok (.aload_n 0, 1) := by decide +kernel
theorem dX6_quarrels_17 : decode cX6_quarrels 17 = .ok (.getfield 49, 3) := by decide +kernel
theorem dX6_quarrels_20 : decode cX6_quarrels 20 = .ok (.aload_n 0, 1) := by decide +kernel
theorem dX6_quarrels_21 : decode cX6_quarrels 21 = .ok (.getfield 12, 3) := by decide +kernel
theorem dX6_quarrels_24 : decode cX6_quarrels 24 = .ok (.getfield 87, 3) := by decide +kernel
theorem dX6_quarrels_27 : decode cX6_quarrels 27 = .ok (.invokevirtual 194, 3) := by decide +kernel
theorem dX6_quarrels_30 : decode cX6_quarrels 30 = .ok (.ireturn, 1) := by decide +kernel
theorem dX6_stick_0 : decode cX6_stick 0 = .ok (.aload_n 0, 1) := by decide +kernel
theorem dX6_stick_1 : decode cX6_stick 1 = .ok (.iload_n 1, 1) := by decide +kernel
theorem dX6_stick_2 : decode cX6_stick 2 = .ok (.invokevirtual 136, 3) := by decide +kernel
theorem dX6_stick_5 : decode cX6_stick 5 = .ok (.iload_n 2, 1) := by decide +kernel
theorem dX6_stick_6 : decode cX6_stick 6 = .ok (.iconst 0, 1) := by decide +kernel
theorem dX6_stick_7 : decode cX6_stick 7 = .ok (.bipush 13, 2) := by decide +kernel
theorem dX6_stick_9 : decode cX6_stick 9 = .ok (.invokestatic 98, 3) := by decide +kernel
theorem dX6_stick_12 : decode cX6_stick 12 = .ok (.aload_n 0, 1) := by decide +kernel
theorem dX6_stick_13 : decode cX6_stick 13 = .ok (.iload_n 1, 1) := by decide +kernel
theorem dX6_stick_14 : decode cX6_stick 14 = .ok (.iload_n 2, 1) := by decide +kernel
theorem dX6_stick_15 : decode cX6_stick 15 = .ok (.invokevirtual 197, 3) := by decide +kernel
theorem dX6_stick_18 : decode cX6_stick 18 = .ok (.ireturn, 1) := by decide +kernel
theorem dX6_count_0 : decode cX6_count 0 = .ok (.iload_n 1, 1) := by decide +kernel
theorem dX6_count_1 : decode cX6_count 1 = .ok (.iconst 0, 1) := by decide +kernel
theorem dX6_count_2 : decode cX6_count 2 = .ok (.bipush 7, 2) := by decide +kernel
theorem dX6_count_4 : decode cX6_count 4 = .ok (.invokestatic 98, 3) := by decide +kernel
theorem dX6_count_7 : decode cX6_count 7 = .ok (.aload_n 0, 1) := by decide +kernel
theorem dX6_count_8 : decode cX6_count 8 = .ok (.iload_n 1, 1) := by decide +kernel
theorem dX6_count_9 : decode cX6_count 9 = .ok (.invokevirtual 200, 3) := by decide +kernel
theorem dX6_count_12 : decode cX6_count 12 = .ok (.ireturn, 1) := by decide +kernel
theorem dX6_range_0 : decode cX6_range 0 = .ok (.aload_n 0, 1) := by decide +kernel
theorem dX6_range_1 : decode cX6_range 1 = .ok (.iload_n 1, 1) := by decide +kernel
theorem dX6_range_2 : decode cX6_range 2 = .ok (.invokevirtual 95, 3) := by decide +kernel
theorem dX6_range_5 : decode cX6_range 5 = .ok (.iload_n 2, 1) := by decide +kernel
theorem dX6_range_6 : decode cX6_range 6 = .ok (.invokestatic 119, 3) := by decide +kernel
theorem dX6_range_9 : decode cX6_range 9 = .ok (.iload_n 3, 1) := by decide +kernel
theorem dX6_range_10 : decode cX6_range 10 = .ok (.iconst 1, 1) := by decide +kernel
theorem dX6_range_11 : decode cX6_range 11 = .ok (.bipush 40, 2) := by decide +kernel
theorem dX6_range_13 : decode cX6_range 13 = .ok (.invokestatic 98, 3) := by decide +kernel
theorem dX6_range_16 : decode cX6_range 16 = .ok (.aload_n 0, 1) := by decide +kernel
theorem dX6_range_17 : decode cX6_range 17 = .ok (.iload_n 1, 1) := by decide +kernel
theorem dX6_range_18 : decode cX6_range 18 = .ok (.iload_n 2, 1) := by decide +kernel
theorem dX6_range_19 : decode cX6_range 19 = .ok (.iload_n 3, 1) := by decide +kernel
theorem dX6_range_20 : decode cX6_range 20 = .ok (.iload 4, 2) := by decide +kernel
theorem dX6_range_22 : decode cX6_range 22 = .ok (.invokevirtual 203, 3) := by decide +kernel
theorem dX6_range_25 : decode cX6_range 25 = .ok (.ireturn, 1) := by decide +kernel
theorem dX6_alike_0 : decode cX6_alike 0 = .ok (.iload_n 1, 1) := by decide +kernel
theorem dX6_alike_1 : decode cX6_alike 1 = .ok (.invokestatic 119, 3) := by decide +kernel
theorem dX6_alike_4 : decode cX6_alike 4 = .ok (.aload_n 0, 1) := by decide +kernel
theorem dX6_alike_5 : decode cX6_alike 5 = .ok (.iload_n 1, 1) := by decide +kernel
theorem dX6_alike_6 : decode cX6_alike 6 = .ok (.invokevirtual 207, 3) := by decide +kernel
theorem dX6_alike_9 : decode cX6_alike 9 = .ok (.ireturn, 1) := by decide +kernel
theorem dX6_peace_0 : decode cX6_peace 0 = .ok (.iload_n 1, 1) := by decide +kernel
theorem dX6_peace_1 : decode cX6_peace 1 = .ok (.invokestatic 113, 3) := by decide +kernel
theorem dX6_peace_4 : decode cX6_peace 4 = .ok (.iload_n 2, 1) := by decide +kernel
theorem dX6_peace_5 : decode cX6_peace 5 = .ok (.invokestatic 119, 3) := by decide +kernel
theorem dX6_peace_8 : decode cX6_peace 8 = .ok (.aload_n 0, 1) := by decide +kernel
theorem dX6_peace_9 : decode cX6_peace 9 = .ok (.iload_n 1, 1) := by decide +kernel
theorem dX6_peace_10 : decode cX6_peace 10 = .ok (.iload_n 2, 1) := by decide +kernel
theorem dX6_peace_11 : decode cX6_peace 11 = .ok (.invokevirtual 210, 3) := by decide +kernel
theorem dX6_peace_14 : decode cX6_peace 14 = .ok (.iconst 5, 1) := by decide +kernel
theorem dX6_peace_15 : decode cX6_peace 15 = .ok (.iadd, 1) := by decide +kernel
theorem dX6_peace_16 : decode cX6_peace 16 = .ok (.ireturn, 1) := by decide +kernel
theorem dX6_moved_0 : decode cX6_moved 0 = .ok (.iload_n 1, 1) := by decide +kernel
theorem dX6_moved_1 : decode cX6_moved 1 = .ok (.invokestatic 119, 3) := by decide +kernel
theorem dX6_moved_4 : decode cX6_moved 4 = .ok (.iload_n 2, 1) := by decide +kernel
theorem dX6_moved_5 : decode cX6_moved 5 = .ok (.invokestatic 113, 3) := by decide +kernel
theorem dX6_moved_8 : decode cX6_moved 8 = .ok (.aload_n 0, 1) := by decide +kernel
theorem dX6_moved_9 : decode cX6_moved 9 = .ok (.getfield 42, 3) := by decide +kernel
theorem dX6_moved_12 : decode cX6_moved 12 = .ok (.aload_n 0, 1) := by decide +kernel
theorem dX6_moved_13 : decode cX6_moved 13 = .ok (.getfield 12, 3) := by decide +kernel
theorem dX6_moved_16 : decode cX6_moved 16 = .ok (.iload_n 1, 1) := by decide +kernel
theorem dX6_moved_17 : decode cX6_moved 17 = .ok (.aload_n 0, 1) := by decide +kernel
theorem dX6_moved_18 : decode cX6_moved 18 = .ok (.getfield 12, 3) := by decide +kernel
theorem dX6_moved_21 : decode cX6_moved 21 = .ok (.getfield 116, 3) := by decide +kernel
theorem dX6_moved_24 : decode cX6_moved 24 = .ok (.iload_n 2, 1) := by decide +kernel
theorem dX6_moved_25 : decode cX6_moved 25 = .ok (.invokevirtual 105, 3) := by decide +kernel
theorem dX6_moved_28 : decode cX6_moved 28 = .ok (.invokevirtual 122, 3) := by decide +kernel
theorem dX6_moved_31 : decode cX6_moved 31 = .ok (.aload_n 0, 1) := by decide +kernel
theorem dX6_moved_32 : decode cX6_moved 32 = .ok (.getfield 42, 3) := by decide +kernel
theorem dX6_moved_35 : decode cX6_moved 35 = .ok (.aload_n 0, 1) := by decide +kernel
theorem dX6_moved_36 : decode cX6_moved 36 = .ok (.getfield 12, 3) := by decide +kernel
theorem dX6_moved_39 : decode cX6_moved 39 = .ok (.getfield 87, 3) := by decide +kernel
theorem dX6_moved_42 : decode cX6_moved 42 = .ok (.invokevirtual 213, 3) := by decide +kernel
theorem dX6_moved_45 : decode cX6_moved 45 = .ok (.ireturn, 1) := by decide +kernel
theorem dX6_freshShare_0 : decode cX6_freshShare 0 = .ok (.aload_n 0, 1) := by decide +kernel
theorem dX6_freshShare_1 : decode cX6_freshShare 1 = .ok (.invokevirtual 216, 3) := by decide +kernel
theorem dX6_freshShare_4 : decode cX6_freshShare 4 = .ok (.dreturn, 1) := by decide +kernel
theorem dX6_digest_0 : decode cX6_digest 0 = .ok (.ldc2_w 220, 3) := by decide +kernel
theorem dX6_digest_3 : decode cX6_digest 3 = .ok (.lstore_n 1, 1) := by decide +kernel
theorem dX6_digest_4 : decode cX6_digest 4 = .ok (.iconst 0, 1) := by decide +kernel
theorem dX6_digest_5 : decode cX6_digest 5 = .ok (.istore_n 3, 1) := by decide +kernel
theorem dX6_digest_6 : decode cX6_digest 6 = .ok (.iload_n 3, 1) := by decide +kernel
theorem dX6_digest_7 : decode cX6_digest 7 = .ok (.bipush 7, 2) := by decide +kernel
theorem dX6_digest_9 : decode cX6_digest 9 = .ok (.if_icmp .gt 20, 3) := by decide +kernel
theorem dX6_digest_12 : decode cX6_digest 12 = .ok (.lload_n 1, 1) := by decide +kernel
theorem dX6_digest_13 : decode cX6_digest 13 = .ok (.aload_n 0, 1) := by decide +kernel
theorem dX6_digest_14 : decode cX6_digest 14 = .ok (.iload_n 3, 1) := by decide +kernel
theorem dX6_digest_15 : decode cX6_digest 15 = .ok (.invokevirtual 200, 3) := by decide +kernel
theorem dX6_digest_18 : decode cX6_digest 18 = .ok (.i2l, 1) := by decide +kernel
theorem dX6_digest_19 : decode cX6_digest 19 = .ok (.invokestatic 222, 3) := by decide +kernel
theorem dX6_digest_22 : decode cX6_digest 22 = .ok (.lstore_n 1, 1) := by decide +kernel
theorem dX6_digest_23 : decode cX6_digest 23 = .ok (.iinc 3 1, 3) := by decide +kernel
theorem dX6_digest_26 : decode cX6_digest 26 = .ok (.goto (-20), 3) := by decide +kernel
theorem dX6_digest_29 : decode cX6_digest 29 = .ok (.aload_n 0, 1) := by decide +kernel
theorem dX6_digest_30 : decode cX6_digest 30 = .ok (.invokevirtual 226, 3) := by decide +kernel
theorem dX6_digest_33 : decode cX6_digest 33 = .ok (.aload_n 0, 1) := by decide +kernel
theorem dX6_digest_34 : decode cX6_digest 34 = .ok (.lload_n 1, 1) := by decide +kernel
theorem dX6_digest_35 : decode cX6_digest 35 = .ok (.invokevirtual 229, 3) := by decide +kernel
theorem dX6_digest_38 : decode cX6_digest 38 = .ok (.lstore_n 1, 1) := by decide +kernel
theorem dX6_digest_39 : decode cX6_digest 39 = .ok (.aload_n 0, 1) := by decide +kernel
theorem dX6_digest_40 : decode cX6_digest 40 = .ok (.lload_n 1, 1) := by decide +kernel
theorem dX6_digest_41 : decode cX6_digest 41 = .ok (.invokevirtual 233, 3) := by decide +kernel
theorem dX6_digest_44 : decode cX6_digest 44 = .ok (.lstore_n 1, 1) := by decide +kernel
theorem dX6_digest_45 : decode cX6_digest 45 = .ok (.iconst 0, 1) := by decide +kernel
theorem dX6_digest_46 : decode cX6_digest 46 = .ok (.istore_n 3, 1) := by decide +kernel
theorem dX6_digest_47 : decode cX6_digest 47 = .ok (.iload_n 3, 1) := by decide +kernel
theorem dX6_digest_48 : decode cX6_digest 48 = .ok (.aload_n 0, 1) := by decide +kernel
theorem dX6_digest_49 : decode cX6_digest 49 = .ok (.getfield 12, 3) := by decide +kernel
theorem dX6_digest_52 : decode cX6_digest 52 = .ok (.getfield 236, 3) := by decide +kernel
theorem dX6_digest_55 : decode cX6_digest 55 = .ok (.if_icmp .ge 38, 3) := by decide +kernel
theorem dX6_digest_58 : decode cX6_digest 58 = .ok (.iconst 0, 1) := by decide +kernel
theorem dX6_digest_59 : decode cX6_digest 59 = .ok (.istore 4, 2) := by decide +kernel
theorem dX6_digest_61 : decode cX6_digest 61 = .ok (.iload 4, 2) := by decide +kernel
theorem dX6_digest_63 : decode cX6_digest 63 = .ok (.bipush 13, 2) := by decide +kernel
theorem dX6_digest_65 : decode cX6_digest 65 = .ok (.if_icmp .gt 22, 3) := by decide +kernel
theorem dX6_digest_68 : decode cX6_digest 68 = .ok (.lload_n 1, 1) := by decide +kernel
theorem dX6_digest_69 : decode cX6_digest 69 = .ok (.aload_n 0, 1) := by decide +kernel
theorem dX6_digest_70 : decode cX6_digest 70 = .ok (.iload_n 3, 1) := by decide +kernel
theorem dX6_digest_71 : decode cX6_digest 71 = .ok (.iload 4, 2) := by decide +kernel
theorem dX6_digest_73 : decode cX6_digest 73 = .ok (.invokevirtual 197, 3) := by decide +kernel
theorem dX6_digest_76 : decode cX6_digest 76 = .ok (.i2l, 1) := by decide +kernel
theorem dX6_digest_77 : decode cX6_digest 77 = .ok (.invokestatic 222, 3) := by decide +kernel
theorem dX6_digest_80 : decode cX6_digest 80 = .ok (.lstore_n 1, 1) := by decide +kernel
theorem dX6_digest_81 : decode cX6_digest 81 = .ok (.iinc 4 1, 3) := by decide +kernel
theorem dX6_digest_84 : decode cX6_digest 84 = .ok (.goto (-23), 3) := by decide +kernel
theorem dX6_digest_87 : decode cX6_digest 87 = .ok (.iinc 3 1, 3) := by decide +kernel
theorem dX6_digest_90 : decode cX6_digest 90 = .ok (.goto (-43), 3) := by decide +kernel
theorem dX6_digest_93 : decode cX6_digest 93 = .ok (.lload_n 1, 1) := by decide +kernel
theorem dX6_digest_94 : decode cX6_digest 94 = .ok (.aload_n 0, 1) := by decide +kernel
theorem dX6_digest_95 : decode cX6_digest 95 = .ok (.bipush 20, 2) := by decide +kernel
theorem dX6_digest_97 : decode cX6_digest 97 = .ok (.invokevirtual 207, 3) := by decide +kernel
theorem dX6_digest_100 : decode cX6_digest 100 = .ok (.i2l, 1) := by decide +kernel
theorem dX6_digest_101 : decode cX6_digest 101 = .ok (.invokestatic 222, 3) := by decide +kernel
theorem dX6_digest_104 : decode cX6_digest 104 = .ok (.lstore_n 1, 1) := by decide +kernel
theorem dX6_digest_105 : decode cX6_digest 105 = .ok (.lload_n 1, 1) := by decide +kernel
theorem dX6_digest_106 : decode cX6_digest 106 = .ok (.aload_n 0, 1) := by decide +kernel
theorem dX6_digest_107 : decode cX6_digest 107 = .ok (.iconst 1, 1) := by decide +kernel
theorem dX6_digest_108 : decode cX6_digest 108 = .ok (.bipush 100, 2) := by decide +kernel
theorem dX6_digest_110 : decode cX6_digest 110 = .ok (.invokevirtual 210, 3) := by decide +kernel
theorem dX6_digest_113 : decode cX6_digest 113 = .ok (.iconst 5, 1) := by decide +kernel
theorem dX6_digest_114 : decode cX6_digest 114 = .ok (.iadd, 1) := by decide +kernel
theorem dX6_digest_115 : decode cX6_digest 115 = .ok (.i2l, 1) := by decide +kernel
theorem dX6_digest_116 : decode cX6_digest 116 = .ok (.invokestatic 222, 3) := by decide +kernel
theorem dX6_digest_119 : decode cX6_digest 119 = .ok (.lstore_n 1, 1) := by decide +kernel
theorem dX6_digest_120 : decode cX6_digest 120 = .ok (.aload_n 0, 1) := by decide +kernel
theorem dX6_digest_121 : decode cX6_digest 121 = .ok (.getfield 12, 3) := by decide +kernel
theorem dX6_digest_124 : decode cX6_digest 124 = .ok (.getfield 87, 3) := by decide +kernel
theorem dX6_digest_127 : decode cX6_digest 127 = .ok (.ifCond .le 35, 3) := by decide +kernel
theorem dX6_digest_130 : decode cX6_digest 130 = .ok (.lload_n 1, 1) := by decide +kernel
theorem dX6_digest_131 : decode cX6_digest 131 = .ok (.aload_n 0, 1) := by decide +kernel
theorem dX6_digest_132 : decode cX6_digest 132 = .ok (.iconst 0, 1) := by decide +kernel
theorem dX6_digest_133 : decode cX6_digest 133 = .ok (.bipush 50, 2) := by decide +kernel
theorem dX6_digest_135 : decode cX6_digest 135 = .ok (.bipush 20, 2) := by decide +kernel
theorem dX6_digest_137 : decode cX6_digest 137 = .ok (.iconst 0, 1) := by decide +kernel
theorem dX6_digest_138 : decode cX6_digest 138 = .ok (.invokevirtual 203, 3) := by decide +kernel
theorem dX6_digest_141 : decode cX6_digest 141 = .ok (.i2l, 1) := by decide +kernel
theorem dX6_digest_142 : decode cX6_digest 142 = .ok (.invokestatic 222, 3) := by decide +kernel
theorem dX6_digest_145 : decode cX6_digest 145 = .ok (.lstore_n 1, 1) := by decide +kernel
theorem dX6_digest_146 : decode cX6_digest 146 = .ok (.lload_n 1, 1) := by decide +kernel
theorem dX6_digest_147 : decode cX6_digest 147 = .ok (.aload_n 0, 1) := by decide +kernel
theorem dX6_digest_148 : decode cX6_digest 148 = .ok (.iconst 0, 1) := by decide +kernel
theorem dX6_digest_149 : decode cX6_digest 149 = .ok (.bipush 50, 2) := by decide +kernel
theorem dX6_digest_151 : decode cX6_digest 151 = .ok (.bipush 20, 2) := by decide +kernel
theorem dX6_digest_153 : decode cX6_digest 153 = .ok (.iconst 1, 1) := by decide +kernel
theorem dX6_digest_154 : decode cX6_digest 154 = .ok (.invokevirtual 203, 3) := by decide +kernel
theorem dX6_digest_157 : decode cX6_digest 157 = .ok (.i2l, 1) := by decide +kernel
theorem dX6_digest_158 : decode cX6_digest 158 = .ok (.invokestatic 222, 3) := by decide +kernel
theorem dX6_digest_161 : decode cX6_digest 161 = .ok (.lstore_n 1, 1) := by decide +kernel
theorem dX6_digest_162 : decode cX6_digest 162 = .ok (.lload_n 1, 1) := by decide +kernel
theorem dX6_digest_163 : decode cX6_digest 163 = .ok (.aload_n 0, 1) := by decide +kernel
theorem dX6_digest_164 : decode cX6_digest 164 = .ok (.invokevirtual 216, 3) := by decide +kernel
theorem dX6_digest_167 : decode cX6_digest 167 = .ok (.invokestatic 239, 3) := by decide +kernel
theorem dX6_digest_170 : decode cX6_digest 170 = .ok (.invokestatic 222, 3) := by decide +kernel
theorem dX6_digest_173 : decode cX6_digest 173 = .ok (.lstore_n 1, 1) := by decide +kernel
theorem dX6_digest_174 : decode cX6_digest 174 = .ok (.lload_n 1, 1) := by decide +kernel
theorem dX6_digest_175 : decode cX6_digest 175 = .ok (.aload_n 0, 1) := by decide +kernel
theorem dX6_digest_176 : decode cX6_digest 176 = .ok (.getfield 64, 3) := by decide +kernel
theorem dX6_digest_179 : decode cX6_digest 179 = .ok (.i2l, 1) := by decide +kernel
theorem dX6_digest_180 : decode cX6_digest 180 = .ok (.invokestatic 222, 3) := by decide +kernel
theorem dX6_digest_183 : decode cX6_digest 183 = .ok (.lstore_n 1, 1) := by decide +kernel
theorem dX6_digest_184 : decode cX6_digest 184 = .ok (.iconst 0, 1) := by decide +kernel
theorem dX6_digest_185 : decode cX6_digest 185 = .ok (.istore_n 3, 1) := by decide +kernel
theorem dX6_digest_186 : decode cX6_digest 186 = .ok (.iload_n 3, 1) := by decide +kernel
theorem dX6_digest_187 : decode cX6_digest 187 = .ok (.aload_n 0, 1) := by decide +kernel
theorem dX6_digest_188 : decode cX6_digest 188 = .ok (.getfield 64, 3) := by decide +kernel
theorem dX6_digest_191 : decode cX6_digest 191 = .ok (.if_icmp .ge 23, 3) := by decide +kernel
theorem dX6_digest_194 : decode cX6_digest 194 = .ok (.lload_n 1, 1) := by decide +kernel
theorem dX6_digest_195 : decode cX6_digest 195 = .ok (.aload_n 0, 1) := by decide +kernel
theorem dX6_digest_196 : decode cX6_digest 196 = .ok (.getfield 28, 3) := by decide +kernel
theorem dX6_digest_199 : decode cX6_digest 199 = .ok (.iload_n 3, 1) := by decide +kernel
theorem dX6_digest_200 : decode cX6_digest 200 = .ok (.invokevirtual 105, 3) := by decide +kernel
theorem dX6_digest_203 : decode cX6_digest 203 = .ok (.i2l, 1) := by decide +kernel
theorem dX6_digest_204 : decode cX6_digest 204 = .ok (.invokestatic 222, 3) := by decide +kernel
theorem dX6_digest_207 : decode cX6_digest 207 = .ok (.lstore_n 1, 1) := by decide +kernel
theorem dX6_digest_208 : decode cX6_digest 208 = .ok (.iinc 3 1, 3) := by decide +kernel
theorem dX6_digest_211 : decode cX6_digest 211 = .ok (.goto (-25), 3) := by decide +kernel
theorem dX6_digest_214 : decode cX6_digest 214 = .ok (.lload_n 1, 1) := by decide +kernel
theorem dX6_digest_215 : decode cX6_digest 215 = .ok (.lreturn, 1) := by decide +kernel
theorem dX6_needWithin_0 : decode cX6_needWithin 0 = .ok (.iload_n 0, 1) := by decide +kernel
theorem dX6_needWithin_1 : decode cX6_needWithin 1 = .ok (.iload_n 1, 1) := by decide +kernel
theorem dX6_needWithin_2 : decode cX6_needWithin 2 = .ok (.if_icmp .lt 8, 3) := by decide +kernel
theorem dX6_needWithin_5 : decode cX6_needWithin 5 = .ok (.iload_n 0, 1) := by decide +kernel
theorem dX6_needWithin_6 : decode cX6_needWithin 6 = .ok (.iload_n 2, 1) := by decide +kernel
theorem dX6_needWithin_7 : decode cX6_needWithin 7 = .ok (.if_icmp .le 13, 3) := by decide +kernel
theorem dX6_needWithin_10 : decode cX6_needWithin 10 = .ok (.new 72, 3) := by decide +kernel
theorem dX6_needWithin_13 : decode cX6_needWithin 13 = .ok (.dup, 1) := by decide +kernel
theorem dX6_needWithin_14 : decode cX6_needWithin 14 = .ok (.ldc 243, 2) := by decide +kernel
theorem dX6_needWithin_16 : decode cX6_needWithin 16 = .ok (.invokespecial 76, 3) := by decide +kernel
theorem dX6_needWithin_19 : decode cX6_needWithin 19 = .ok (.athrow, 1) := by decide +kernel
theorem dX6_needWithin_20 : decode cX6_needWithin 20 = .ok (.return_, 1) := by decide +kernel
theorem dX6_needYear_0 : decode cX6_needYear 0 = .ok (.iload_n 0, 1) := by decide +kernel
theorem dX6_needYear_1 : decode cX6_needYear 1 = .ok (.iconst 0, 1) := by decide +kernel
theorem dX6_needYear_2 : decode cX6_needYear 2 = .ok (.sipush 999, 3) := by decide +kernel
theorem dX6_needYear_5 : decode cX6_needYear 5 = .ok (.invokestatic 98, 3) := by decide +kernel
theorem dX6_needYear_8 : decode cX6_needYear 8 = .ok (.return_, 1) := by decide +kernel
theorem dX6_needCarver_0 : decode cX6_needCarver 0 = .ok (.iload_n 0, 1) := by decide +kernel
theorem dX6_needCarver_1 : decode cX6_needCarver 1 = .ok (.iconst 0, 1) := by decide +kernel
theorem dX6_needCarver_2 : decode cX6_needCarver 2 = .ok (.iconst 2, 1) := by decide +kernel
theorem dX6_needCarver_3 : decode cX6_needCarver 3 = .ok (.invokestatic 98, 3) := by decide +kernel
theorem dX6_needCarver_6 : decode cX6_needCarver 6 = .ok (.return_, 1) := by decide +kernel
theorem dX6_needFeast_0 : decode cX6_needFeast 0 = .ok (.iload_n 1, 1) := by decide +kernel
theorem dX6_needFeast_1 : decode cX6_needFeast 1 = .ok (.ifCond .lt 14, 3) := by decide +kernel
theorem dX6_needFeast_4 : decode cX6_needFeast 4 = .ok (.iload_n 1, 1) := by decide +kernel
theorem dX6_needFeast_5 : decode cX6_needFeast 5 = .ok (.aload_n 0, 1) := by decide +kernel
theorem dX6_needFeast_6 : decode cX6_needFeast 6 = .ok (.getfield 12, 3) := by decide +kernel
theorem dX6_needFeast_9 : decode cX6_needFeast 9 = .ok (.getfield 87, 3) := by decide +kernel
theorem dX6_needFeast_12 : decode cX6_needFeast 12 = .ok (.if_icmp .lt 13, 3) := by decide +kernel
theorem dX6_needFeast_15 : decode cX6_needFeast 15 = .ok (.new 245, 3) := by decide +kernel
theorem dX6_needFeast_18 : decode cX6_needFeast 18 = .ok (.dup, 1) := by decide +kernel
theorem dX6_needFeast_19 : decode cX6_needFeast 19 = .ok (.ldc 247, 2) := by decide +kernel
theorem dX6_needFeast_21 : decode cX6_needFeast 21 = .ok (.invokespecial 249, 3) := by decide +kernel
theorem dX6_needFeast_24 : decode cX6_needFeast 24 = .ok (.athrow, 1) := by decide +kernel
theorem dX6_needFeast_25 : decode cX6_needFeast 25 = .ok (.return_, 1) := by decide +kernel
theorem dX6_needStick_0 : decode cX6_needStick 0 = .ok (.iload_n 1, 1) := by decide +kernel
theorem dX6_needStick_1 : decode cX6_needStick 1 = .ok (.ifCond .lt 14, 3) := by decide +kernel
theorem dX6_needStick_4 : decode cX6_needStick 4 = .ok (.iload_n 1, 1) := by decide +kernel
theorem dX6_needStick_5 : decode cX6_needStick 5 = .ok (.aload_n 0, 1) := by decide +kernel
theorem dX6_needStick_6 : decode cX6_needStick 6 = .ok (.getfield 12, 3) := by decide +kernel
theorem dX6_needStick_9 : decode cX6_needStick 9 = .ok (.getfield 236, 3) := by decide +kernel
theorem dX6_needStick_12 : decode cX6_needStick 12 = .ok (.if_icmp .lt 13, 3) := by decide +kernel
theorem dX6_needStick_15 : decode cX6_needStick 15 = .ok (.new 245, 3) := by decide +kernel
theorem dX6_needStick_18 : decode cX6_needStick 18 = .ok (.dup, 1) := by decide +kernel
theorem dX6_needStick_19 : decode cX6_needStick 19 = .ok (.ldc 250, 2) := by decide +kernel
theorem dX6_needStick_21 : decode cX6_needStick 21 = .ok (.invokespecial 249, 3) := by decide +kernel
theorem dX6_needStick_24 : decode cX6_needStick 24 = .ok (.athrow, 1) := by decide +kernel
theorem dX6_needStick_25 : decode cX6_needStick 25 = .ok (.return_, 1) := by decide +kernel
theorem dX6_isLeap_0 : decode cX6_isLeap 0 = .ok (.iload_n 0, 1) := by decide +kernel
theorem dX6_isLeap_1 : decode cX6_isLeap 1 = .ok (.iconst 4, 1) := by decide +kernel
theorem dX6_isLeap_2 : decode cX6_isLeap 2 = .ok (.irem, 1) := by decide +kernel
theorem dX6_isLeap_3 : decode cX6_isLeap 3 = .ok (.ifCond .ne 7, 3) := by decide +kernel
theorem dX6_isLeap_6 : decode cX6_isLeap 6 = .ok (.iconst 1, 1) := by decide +kernel
theorem dX6_isLeap_7 : decode cX6_isLeap 7 = .ok (.goto 4, 3) := by decide +kernel
theorem dX6_isLeap_10 : decode cX6_isLeap 10 = .ok (.iconst 0, 1) := by decide +kernel
theorem dX6_isLeap_11 : decode cX6_isLeap 11 = .ok (.ireturn, 1) := by decide +kernel
theorem dX6_daysIn_0 : decode cX6_daysIn 0 = .ok (.iload_n 0, 1) := by decide +kernel
theorem dX6_daysIn_1 : decode cX6_daysIn 1 = .ok (.invokestatic 252, 3) := by decide +kernel
theorem dX6_daysIn_4 : decode cX6_daysIn 4 = .ok (.ifCond .eq 9, 3) := by decide +kernel
theorem dX6_daysIn_7 : decode cX6_daysIn 7 = .ok (.sipush 366, 3) := by decide +kernel
theorem dX6_daysIn_10 : decode cX6_daysIn 10 = .ok (.goto 6, 3) := by decide +kernel
theorem dX6_daysIn_13 : decode cX6_daysIn 13 = .ok (.sipush 365, 3) := by decide +kernel
theorem dX6_daysIn_16 : decode cX6_daysIn 16 = .ok (.ireturn, 1) := by decide +kernel
theorem dX6_newYearWeekday_0 : decode cX6_newYearWeekday 0 = .ok (.iload_n 0, 1) := by decide +kernel
theorem dX6_newYearWeekday_1 : decode cX6_newYearWeekday 1 = .ok (.iconst 3, 1) := by decide +kernel
theorem dX6_newYearWeekday_2 : decode cX6_newYearWeekday 2 = .ok (.iadd, 1) := by decide +kernel
theorem dX6_newYearWeekday_3 : decode cX6_newYearWeekday 3 = .ok (.iconst 4, 1) := by decide +kernel
theorem dX6_newYearWeekday_4 : decode cX6_newYearWeekday 4 = .ok (.idiv, 1) := by decide +kernel
theorem dX6_newYearWeekday_5 : decode cX6_newYearWeekday 5 = .ok (.istore_n 1, 1) := by decide +kernel
theorem dX6_newYearWeekday_6 : decode cX6_newYearWeekday 6 = .ok (.sipush 365, 3) := by decide +kernel
theorem dX6_newYearWeekday_9 : decode cX6_newYearWeekday 9 = .ok (.iload_n 0, 1) := by decide +kernel
theorem dX6_newYearWeekday_10 : decode cX6_newYearWeekday 10 = .ok (.imul, 1) := by decide +kernel
theorem dX6_newYearWeekday_11 : decode cX6_newYearWeekday 11 = .ok (.iload_n 1, 1) := by decide +kernel
theorem dX6_newYearWeekday_12 : decode cX6_newYearWeekday 12 = .ok (.iadd, 1) := by decide +kernel
theorem dX6_newYearWeekday_13 : decode cX6_newYearWeekday 13 = .ok (.bipush 7, 2) := by decide +kernel
theorem dX6_newYearWeekday_15 : decode cX6_newYearWeekday 15 = .ok (.irem, 1) := by decide +kernel
theorem dX6_newYearWeekday_16 : decode cX6_newYearWeekday 16 = .ok (.ireturn, 1) := by decide +kernel
theorem dX6_moonShift_0 : decode cX6_moonShift 0 = .ok (.iload_n 2, 1) := by decide +kernel
theorem dX6_moonShift_1 : decode cX6_moonShift 1 = .ok (.ifCond .le 9, 3) := by decide +kernel
theorem dX6_moonShift_4 : decode cX6_moonShift 4 = .ok (.iload_n 0, 1) := by decide +kernel
theorem dX6_moonShift_5 : decode cX6_moonShift 5 = .ok (.iload_n 2, 1) := by decide +kernel
theorem dX6_moonShift_6 : decode cX6_moonShift 6 = .ok (.idiv, 1) := by decide +kernel
theorem dX6_moonShift_7 : decode cX6_moonShift 7 = .ok (.goto 4, 3) := by decide +kernel
theorem dX6_moonShift_10 : decode cX6_moonShift 10 = .ok (.iconst 0, 1) := by decide +kernel
theorem dX6_moonShift_11 : decode cX6_moonShift 11 = .ok (.istore_n 3, 1) := by decide +kernel
theorem dX6_moonShift_12 : decode cX6_moonShift 12 = .ok (.bipush 11, 2) := by decide +kernel
theorem dX6_moonShift_14 : decode cX6_moonShift 14 = .ok (.iload_n 0, 1) := by decide +kernel
theorem dX6_moonShift_15 : decode cX6_moonShift 15 = .ok (.bipush 19, 2) := by decide +kernel
theorem dX6_moonShift_17 : decode cX6_moonShift 17 = .ok (.irem, 1) := by decide +kernel
theorem dX6_moonShift_18 : decode cX6_moonShift 18 = .ok (.imul, 1) := by decide +kernel
theorem dX6_moonShift_19 : decode cX6_moonShift 19 = .ok (.iload_n 3, 1) := by decide +kernel
theorem dX6_moonShift_20 : decode cX6_moonShift 20 = .ok (.iadd, 1) := by decide +kernel
theorem dX6_moonShift_21 : decode cX6_moonShift 21 = .ok (.iload_n 1, 1) := by decide +kernel
theorem dX6_moonShift_22 : decode cX6_moonShift 22 = .ok (.iadd, 1) := by decide +kernel
theorem dX6_moonShift_23 : decode cX6_moonShift 23 = .ok (.iconst 5, 1) := by decide +kernel
theorem dX6_moonShift_24 : decode cX6_moonShift 24 = .ok (.iadd, 1) := by decide +kernel
theorem dX6_moonShift_25 : decode cX6_moonShift 25 = .ok (.ireturn, 1) := by decide +kernel
theorem dX6_moonAge_0 : decode cX6_moonAge 0 = .ok (.iload_n 0, 1) := by decide +kernel
theorem dX6_moonAge_1 : decode cX6_moonAge 1 = .ok (.iload_n 1, 1) := by decide +kernel
theorem dX6_moonAge_2 : decode cX6_moonAge 2 = .ok (.iadd, 1) := by decide +kernel
theorem dX6_moonAge_3 : decode cX6_moonAge 3 = .ok (.iload_n 1, 1) := by decide +kernel
theorem dX6_moonAge_4 : decode cX6_moonAge 4 = .ok (.bipush 59, 2) := by decide +kernel
theorem dX6_moonAge_6 : decode cX6_moonAge 6 = .ok (.idiv, 1) := by decide +kernel
theorem dX6_moonAge_7 : decode cX6_moonAge 7 = .ok (.iadd, 1) := by decide +kernel
theorem dX6_moonAge_8 : decode cX6_moonAge 8 = .ok (.bipush 30, 2) := by decide +kernel
theorem dX6_moonAge_10 : decode cX6_moonAge 10 = .ok (.irem, 1) := by decide +kernel
theorem dX6_moonAge_11 : decode cX6_moonAge 11 = .ok (.ireturn, 1) := by decide +kernel
theorem dX6_signsReadWell_0 : decode cX6_signsReadWell 0 = .ok (.aload_n 0, 1) := by decide +kernel
theorem dX6_signsReadWell_1 : decode cX6_signsReadWell 1 = .ok (.getfield 35, 3) := by decide +kernel
theorem dX6_signsReadWell_4 : decode cX6_signsReadWell 4 = .ok (.invokevirtual 256, 3) := by decide +kernel
theorem dX6_signsReadWell_7 : decode cX6_signsReadWell 7 = .ok (.iconst 0, 1) := by decide +kernel
theorem dX6_signsReadWell_8 : decode cX6_signsReadWell 8 = .ok (.istore_n 1, 1) := by decide +kernel
theorem dX6_signsReadWell_9 : decode cX6_signsReadWell 9 = .ok (.iload_n 1, 1) := by decide +kernel
theorem dX6_signsReadWell_10 : decode cX6_signsReadWell 10 = .ok (.aload_n 0, 1) := by decide +kernel
theorem dX6_signsReadWell_11 : decode cX6_signsReadWell 11 = .ok (.getfield 64, 3) := by decide +kernel
theorem dX6_signsReadWell_14 : decode cX6_signsReadWell 14 = .ok (.if_icmp .ge 29, 3) := by decide +kernel
theorem dX6_signsReadWell_17 : decode cX6_signsReadWell 17 = .ok (.aload_n 0, 1) := by decide +kernel
theorem dX6_signsReadWell_18 : decode cX6_signsReadWell 18 = .ok (.getfield 35, 3) := by decide +kernel
theorem dX6_signsReadWell_21 : decode cX6_signsReadWell 21 = .ok (.aload_n 0, 1) := by decide +kernel
theorem dX6_signsReadWell_22 : decode cX6_signsReadWell 22 = .ok (.getfield 28, 3) := by decide +kernel
theorem dX6_signsReadWell_25 : decode cX6_signsReadWell 25 = .ok (.iload_n 1, 1) := by decide +kernel
theorem dX6_signsReadWell_26 : decode cX6_signsReadWell 26 = .ok (.invokevirtual 105, 3) := by decide +kernel
theorem dX6_signsReadWell_29 : decode cX6_signsReadWell 29 = .ok (.invokevirtual 259, 3) := by decide +kernel
theorem dX6_signsReadWell_32 : decode cX6_signsReadWell 32 = .ok (.ifCond .ne 5, 3) := by decide +kernel
theorem dX6_signsReadWell_35 : decode cX6_signsReadWell 35 = .ok (.iload_n 1, 1) := by decide +kernel
theorem dX6_signsReadWell_36 : decode cX6_signsReadWell 36 = .ok (.ireturn, 1) := by decide +kernel
theorem dX6_signsReadWell_37 : decode cX6_signsReadWell 37 = .ok (.iinc 1 1, 3) := by decide +kernel
theorem dX6_signsReadWell_40 : decode cX6_signsReadWell 40 = .ok (.goto (-31), 3) := by decide +kernel
theorem dX6_signsReadWell_43 : decode cX6_signsReadWell 43 = .ok (.aload_n 0, 1) := by decide +kernel
theorem dX6_signsReadWell_44 : decode cX6_signsReadWell 44 = .ok (.getfield 64, 3) := by decide +kernel
theorem dX6_signsReadWell_47 : decode cX6_signsReadWell 47 = .ok (.ireturn, 1) := by decide +kernel
theorem dX6_bufferTellsFeasts_0 : decode cX6_bufferTellsFeasts 0 = .ok (.aload_n 0, 1) := by decide +kernel
theorem dX6_bufferTellsFeasts_1 : decode cX6_bufferTellsFeasts 1 = .ok (.invokevirtual 150, 3) := by decide +kernel
theorem dX6_bufferTellsFeasts_4 : decode cX6_bufferTellsFeasts 4 = .ok (.aload_n 0, 1) := by decide +kernel
theorem dX6_bufferTellsFeasts_5 : decode cX6_bufferTellsFeasts 5 = .ok (.getfield 64, 3) := by decide +kernel
theorem dX6_bufferTellsFeasts_8 : decode cX6_bufferTellsFeasts 8 = .ok (.if_icmp .ne 17, 3) := by decide +kernel
theorem dX6_bufferTellsFeasts_11 : decode cX6_bufferTellsFeasts 11 = .ok (.aload_n 0, 1) := by decide +kernel
theorem dX6_bufferTellsFeasts_12 : decode cX6_bufferTellsFeasts 12 = .ok (.getfield 35, 3) := by decide +kernel
theorem dX6_bufferTellsFeasts_15 : decode cX6_bufferTellsFeasts 15 = .ok (.invokevirtual 262, 3) := by decide +kernel
theorem dX6_bufferTellsFeasts_18 : decode cX6_bufferTellsFeasts 18 = .ok (.ifCond .eq 7, 3) := by decide +kernel
theorem dX6_bufferTellsFeasts_21 : decode cX6_bufferTellsFeasts 21 = .ok (.iconst 1, 1) := by decide +kernel
theorem dX6_bufferTellsFeasts_22 : decode cX6_bufferTellsFeasts 22 = .ok (.goto 4, 3) := by decide +kernel
theorem dX6_bufferTellsFeasts_25 : decode cX6_bufferTellsFeasts 25 = .ok (.iconst 0, 1) := by decide +kernel
theorem dX6_bufferTellsFeasts_26 : decode cX6_bufferTellsFeasts 26 = .ok (.ireturn, 1) := by decide +kernel
theorem dX6_addBufferedFeasts_0 : decode cX6_addBufferedFeasts 0 = .ok (.aload_n 0, 1) := by decide +kernel
theorem dX6_addBufferedFeasts_1 : decode cX6_addBufferedFeasts 1 = .ok (.getfield 12, 3) := by decide +kernel
theorem dX6_addBufferedFeasts_4 : decode cX6_addBufferedFeasts 4 = .ok (.getfield 87, 3) := by decide +kernel
theorem dX6_addBufferedFeasts_7 : decode cX6_addBufferedFeasts 7 = .ok (.istore_n 1, 1) := by decide +kernel
theorem dX6_addBufferedFeasts_8 : decode cX6_addBufferedFeasts 8 = .ok (.iconst 1, 1) := by decide +kernel
theorem dX6_addBufferedFeasts_9 : decode cX6_addBufferedFeasts 9 = .ok (.istore_n 2, 1) := by decide +kernel
theorem dX6_addBufferedFeasts_10 : decode cX6_addBufferedFeasts 10 = .ok (.aload_n 0, 1) := by decide +kernel
theorem dX6_addBufferedFeasts_11 : decode cX6_addBufferedFeasts 11 = .ok (.getfield 35, 3) := by decide +kernel
theorem dX6_addBufferedFeasts_14 : decode cX6_addBufferedFeasts 14 = .ok (.invokevirtual 256, 3) := by decide +kernel
theorem dX6_addBufferedFeasts_17 : decode cX6_addBufferedFeasts 17 = .ok (.iconst 0, 1) := by decide +kernel
theorem dX6_addBufferedFeasts_18 : decode cX6_addBufferedFeasts 18 = .ok (.istore_n 3, 1) := by decide +kernel
theorem dX6_addBufferedFeasts_19 : decode cX6_addBufferedFeasts 19 = .ok (.iload_n 3, 1) := by decide +kernel
theorem dX6_addBufferedFeasts_20 : decode cX6_addBufferedFeasts 20 = .ok (.aload_n 0, 1) := by decide +kernel
theorem dX6_addBufferedFeasts_21 : decode cX6_addBufferedFeasts 21 = .ok (.getfield 64, 3) := by decide +kernel
theorem dX6_addBufferedFeasts_24 : decode cX6_addBufferedFeasts 24 = .ok (.if_icmp .ge 45, 3) := by decide +kernel
theorem dX6_addBufferedFeasts_27 : decode cX6_addBufferedFeasts 27 = .ok (.iload_n 2, 1) := by decide +kernel
theorem dX6_addBufferedFeasts_28 : decode cX6_addBufferedFeasts 28 = .ok (.ifCond .eq 41, 3) := by decide +kernel
theorem dX6_addBufferedFeasts_31 : decode cX6_addBufferedFeasts 31 = .ok (.aload_n 0, 1) := by decide +kernel
theorem dX6_addBufferedFeasts_32 : decode cX6_addBufferedFeasts 32 = .ok (.getfield 28, 3) := by decide +kernel
theorem dX6_addBufferedFeasts_35 : decode cX6_addBufferedFeasts 35 = .ok (.iload_n 3, 1) := by decide +kernel
theorem dX6_addBufferedFeasts_36 : decode cX6_addBufferedFeasts 36 = .ok (.invokevirtual 105, 3) := by decide +kernel
theorem dX6_addBufferedFeasts_39 : decode cX6_addBufferedFeasts 39 = .ok (.istore 4, 2) := by decide +kernel
theorem dX6_addBufferedFeasts_41 : decode cX6_addBufferedFeasts 41 = .ok (.iload 4, 2) := by decide +kernel
theorem dX6_addBufferedFeasts_43 : decode cX6_addBufferedFeasts 43 = .ok (.bipush 59, 2) := by decide +kernel
theorem dX6_addBufferedFeasts_45 : decode cX6_addBufferedFeasts 45 = .ok (.if_icmp .ne 8, 3) := by decide +kernel
theorem dX6_addBufferedFeasts_48 : decode cX6_addBufferedFeasts 48 = .ok (.aload_n 0, 1) := by decide +kernel
theorem dX6_addBufferedFeasts_49 : decode cX6_addBufferedFeasts 49 = .ok (.invokevirtual 265, 3) := by decide +kernel
theorem dX6_addBufferedFeasts_52 : decode cX6_addBufferedFeasts 52 = .ok (.istore_n 2, 1) := by decide +kernel
theorem dX6_addBufferedFeasts_53 : decode cX6_addBufferedFeasts 53 = .ok (.aload_n 0, 1) := by decide +kernel
theorem dX6_addBufferedFeasts_54 : decode cX6_addBufferedFeasts 54 = .ok (.getfield 35, 3) := by decide +kernel
theorem dX6_addBufferedFeasts_57 : decode cX6_addBufferedFeasts 57 = .ok (.iload 4, 2) := by decide +kernel
theorem dX6_addBufferedFeasts_59 : decode cX6_addBufferedFeasts 59 = .ok (.invokevirtual 259, 3) := by decide +kernel
theorem dX6_addBufferedFeasts_62 : decode cX6_addBufferedFeasts 62 = .ok (.pop, 1) := by decide +kernel
theorem dX6_addBufferedFeasts_63 : decode cX6_addBufferedFeasts 63 = .ok (.iinc 3 1, 3) := by decide +kernel
theorem dX6_addBufferedFeasts_66 : decode cX6_addBufferedFeasts 66 = .ok (.goto (-47), 3) := by decide +kernel
theorem dX6_addBufferedFeasts_69 : decode cX6_addBufferedFeasts 69 = .ok (.iload_n 2, 1) := by decide +kernel
theorem dX6_addBufferedFeasts_70 : decode cX6_addBufferedFeasts 70 = .ok (.ifCond .eq 8, 3) := by decide +kernel
theorem dX6_addBufferedFeasts_73 : decode cX6_addBufferedFeasts 73 = .ok (.aload_n 0, 1) := by decide +kernel
theorem dX6_addBufferedFeasts_74 : decode cX6_addBufferedFeasts 74 = .ok (.invokevirtual 265, 3) := by decide +kernel
theorem dX6_addBufferedFeasts_77 : decode cX6_addBufferedFeasts 77 = .ok (.pop, 1) := by decide +kernel
theorem dX6_addBufferedFeasts_78 : decode cX6_addBufferedFeasts 78 = .ok (.aload_n 0, 1) := by decide +kernel
theorem dX6_addBufferedFeasts_79 : decode cX6_addBufferedFeasts 79 = .ok (.getfield 12, 3) := by decide +kernel
theorem dX6_addBufferedFeasts_82 : decode cX6_addBufferedFeasts 82 = .ok (.getfield 87, 3) := by decide +kernel
theorem dX6_addBufferedFeasts_85 : decode cX6_addBufferedFeasts 85 = .ok (.iload_n 1, 1) := by decide +kernel
theorem dX6_addBufferedFeasts_86 : decode cX6_addBufferedFeasts 86 = .ok (.isub, 1) := by decide +kernel
theorem dX6_addBufferedFeasts_87 : decode cX6_addBufferedFeasts 87 = .ok (.ireturn, 1) := by decide +kernel
theorem dX6_addReadFeast_0 : decode cX6_addReadFeast 0 = .ok (.aload_n 0, 1) := by decide +kernel
theorem dX6_addReadFeast_1 : decode cX6_addReadFeast 1 = .ok (.getfield 35, 3) := by decide +kernel
theorem dX6_addReadFeast_4 : decode cX6_addReadFeast 4 = .ok (.getfield 268, 3) := by decide +kernel
theorem dX6_addReadFeast_7 : decode cX6_addReadFeast 7 = .ok (.iconst 3, 1) := by decide +kernel
theorem dX6_addReadFeast_8 : decode cX6_addReadFeast 8 = .ok (.if_icmp .ne 24, 3) := by decide +kernel
theorem dX6_addReadFeast_11 : decode cX6_addReadFeast 11 = .ok (.aload_n 0, 1) := by decide +kernel
theorem dX6_addReadFeast_12 : decode cX6_addReadFeast 12 = .ok (.getfield 35, 3) := by decide +kernel
theorem dX6_addReadFeast_15 : decode cX6_addReadFeast 15 = .ok (.getfield 271, 3) := by decide +kernel
theorem dX6_addReadFeast_18 : decode cX6_addReadFeast 18 = .ok (.aload_n 0, 1) := by decide +kernel
theorem dX6_addReadFeast_19 : decode cX6_addReadFeast 19 = .ok (.getfield 12, 3) := by decide +kernel
theorem dX6_addReadFeast_22 : decode cX6_addReadFeast 22 = .ok (.getfield 87, 3) := by decide +kernel
theorem dX6_addReadFeast_25 : decode cX6_addReadFeast 25 = .ok (.if_icmp .lt 7, 3) := by decide +kernel
theorem dX6_addReadFeast_28 : decode cX6_addReadFeast 28 = .ok (.iconst 1, 1) := by decide +kernel
theorem dX6_addReadFeast_29 : decode cX6_addReadFeast 29 = .ok (.goto 4, 3) := by decide +kernel
theorem dX6_addReadFeast_32 : decode cX6_addReadFeast 32 = .ok (.iconst 0, 1) := by decide +kernel
theorem dX6_addReadFeast_33 : decode cX6_addReadFeast 33 = .ok (.istore_n 1, 1) := by decide +kernel
theorem dX6_addReadFeast_34 : decode cX6_addReadFeast 34 = .ok (.aload_n 0, 1) := by decide +kernel
theorem dX6_addReadFeast_35 : decode cX6_addReadFeast 35 = .ok (.getfield 12, 3) := by decide +kernel
theorem dX6_addReadFeast_38 : decode cX6_addReadFeast 38 = .ok (.getfield 87, 3) := by decide +kernel
theorem dX6_addReadFeast_41 : decode cX6_addReadFeast 41 = .ok (.bipush 10, 2) := by decide +kernel
theorem dX6_addReadFeast_43 : decode cX6_addReadFeast 43 = .ok (.if_icmp .ge 7, 3) := by decide +kernel
theorem dX6_addReadFeast_46 : decode cX6_addReadFeast 46 = .ok (.iload_n 1, 1) := by decide +kernel
theorem dX6_addReadFeast_47 : decode cX6_addReadFeast 47 = .ok (.ifCond .eq 5, 3) := by decide +kernel
theorem dX6_addReadFeast_50 : decode cX6_addReadFeast 50 = .ok (.iconst 0, 1) := by decide +kernel
theorem dX6_addReadFeast_51 : decode cX6_addReadFeast 51 = .ok (.ireturn, 1) := by decide +kernel
theorem dX6_addReadFeast_52 : decode cX6_addReadFeast 52 = .ok (.aload_n 0, 1) := by decide +kernel
theorem dX6_addReadFeast_53 : decode cX6_addReadFeast 53 = .ok (.getfield 12, 3) := by decide +kernel
theorem dX6_addReadFeast_56 : decode cX6_addReadFeast 56 = .ok (.aload_n 0, 1) := by decide +kernel
theorem dX6_addReadFeast_57 : decode cX6_addReadFeast 57 = .ok (.getfield 35, 3) := by decide +kernel
theorem dX6_addReadFeast_60 : decode cX6_addReadFeast 60 = .ok (.invokevirtual 274, 3) := by decide +kernel
theorem dX6_addReadFeast_63 : decode cX6_addReadFeast 63 = .ok (.iconst 1, 1) := by decide +kernel
theorem dX6_addReadFeast_64 : decode cX6_addReadFeast 64 = .ok (.ireturn, 1) := by decide +kernel
theorem dX6_lowestFeastOn_0 : decode cX6_lowestFeastOn 0 = .ok (.aload_n 0, 1) := by decide +kernel
theorem dX6_lowestFeastOn_1 : decode cX6_lowestFeastOn 1 = .ok (.getfield 49, 3) := by decide +kernel
theorem dX6_lowestFeastOn_4 : decode cX6_lowestFeastOn 4 = .ok (.aload_n 0, 1) := by decide +kernel
theorem dX6_lowestFeastOn_5 : decode cX6_lowestFeastOn 5 = .ok (.getfield 12, 3) := by decide +kernel
theorem dX6_lowestFeastOn_8 : decode cX6_lowestFeastOn 8 = .ok (.iload_n 1, 1) := by decide +kernel
theorem dX6_lowestFeastOn_9 : decode cX6_lowestFeastOn 9 = .ok (.invokevirtual 187, 3) := by decide +kernel
theorem dX6_lowestFeastOn_12 : decode cX6_lowestFeastOn 12 = .ok (.iconst 0, 1) := by decide +kernel
theorem dX6_lowestFeastOn_13 : decode cX6_lowestFeastOn 13 = .ok (.istore_n 3, 1) := by decide +kernel
theorem dX6_lowestFeastOn_14 : decode cX6_lowestFeastOn 14 = .ok (.iload_n 3, 1) := by decide +kernel
theorem dX6_lowestFeastOn_15 : decode cX6_lowestFeastOn 15 = .ok (.aload_n 0, 1) := by decide +kernel
theorem dX6_lowestFeastOn_16 : decode cX6_lowestFeastOn 16 = .ok (.getfield 12, 3) := by decide +kernel
theorem dX6_lowestFeastOn_19 : decode cX6_lowestFeastOn 19 = .ok (.getfield 87, 3) := by decide +kernel
theorem dX6_lowestFeastOn_22 : decode cX6_lowestFeastOn 22 = .ok (.if_icmp .ge 23, 3) := by decide +kernel
theorem dX6_lowestFeastOn_25 : decode cX6_lowestFeastOn 25 = .ok (.aload_n 0, 1) := by decide +kernel
theorem dX6_lowestFeastOn_26 : decode cX6_lowestFeastOn 26 = .ok (.getfield 49, 3) := by decide +kernel
theorem dX6_lowestFeastOn_29 : decode cX6_lowestFeastOn 29 = .ok (.iload_n 3, 1) := by decide +kernel
theorem dX6_lowestFeastOn_30 : decode cX6_lowestFeastOn 30 = .ok (.invokevirtual 191, 3) := by decide +kernel
theorem dX6_lowestFeastOn_33 : decode cX6_lowestFeastOn 33 = .ok (.iload_n 2, 1) := by decide +kernel
theorem dX6_lowestFeastOn_34 : decode cX6_lowestFeastOn 34 = .ok (.if_icmp .ne 5, 3) := by decide +kernel
theorem dX6_lowestFeastOn_37 : decode cX6_lowestFeastOn 37 = .ok (.iload_n 3, 1) := by decide +kernel
theorem dX6_lowestFeastOn_38 : decode cX6_lowestFeastOn 38 = .ok (.ireturn, 1) := by decide +kernel
theorem dX6_lowestFeastOn_39 : decode cX6_lowestFeastOn 39 = .ok (.iinc 3 1, 3) := by decide +kernel
theorem dX6_lowestFeastOn_42 : decode cX6_lowestFeastOn 42 = .ok (.goto (-28), 3) := by decide +kernel
theorem dX6_lowestFeastOn_45 : decode cX6_lowestFeastOn 45 = .ok (.iconst (-1), 1) := by decide +kernel
theorem dX6_lowestFeastOn_46 : decode cX6_lowestFeastOn 46 = .ok (.ireturn, 1) := by decide +kernel
theorem dX6_feastProperty_0 : decode cX6_feastProperty 0 = .ok (.iload_n 2, 1) := by decide +kernel
theorem dX6_feastProperty_1 : decode cX6_feastProperty 1 = .ok (.tableswitch 95 0 2 #[27, 39, 51], 27) := by decide +kernel
theorem dX6_feastProperty_28 : decode cX6_feastProperty 28 = .ok (.aload_n 0, 1) := by decide +kernel
theorem dX6_feastProperty_29 : decode cX6_feastProperty 29 = .ok (.getfield 12, 3) := by decide +kernel
theorem dX6_feastProperty_32 : decode cX6_feastProperty 32 = .ok (.getfield 278, 3) := by decide +kernel
theorem dX6_feastProperty_35 : decode cX6_feastProperty 35 = .ok (.iload_n 1, 1) := by decide +kernel
theorem dX6_feastProperty_36 : decode cX6_feastProperty 36 = .ok (.invokevirtual 105, 3) := by decide +kernel
theorem dX6_feastProperty_39 : decode cX6_feastProperty 39 = .ok (.ireturn, 1) := by decide +kernel
theorem dX6_feastProperty_40 : decode cX6_feastProperty 40 = .ok (.aload_n 0, 1) := by decide +kernel
theorem dX6_feastProperty_41 : decode cX6_feastProperty 41 = .ok (.getfield 12, 3) := by decide +kernel
theorem dX6_feastProperty_44 : decode cX6_feastProperty 44 = .ok (.getfield 102, 3) := by decide +kernel
theorem dX6_feastProperty_47 : decode cX6_feastProperty 47 = .ok (.iload_n 1, 1) := by decide +kernel
theorem dX6_feastProperty_48 : decode cX6_feastProperty 48 = .ok (.invokevirtual 105, 3) := by decide +kernel
theorem dX6_feastProperty_51 : decode cX6_feastProperty 51 = .ok (.ireturn, 1) := by decide +kernel
theorem dX6_feastProperty_52 : decode cX6_feastProperty 52 = .ok (.aload_n 0, 1) := by decide +kernel
theorem dX6_feastProperty_53 : decode cX6_feastProperty 53 = .ok (.getfield 12, 3) := by decide +kernel
theorem dX6_feastProperty_56 : decode cX6_feastProperty 56 = .ok (.getfield 278, 3) := by decide +kernel
theorem dX6_feastProperty_59 : decode cX6_feastProperty 59 = .ok (.iload_n 1, 1) := by decide +kernel
theorem dX6_feastProperty_60 : decode cX6_feastProperty 60 = .ok (.invokevirtual 105, 3) := by decide +kernel
theorem dX6_feastProperty_63 : decode cX6_feastProperty 63 = .ok (.iconst 3, 1) := by decide +kernel
theorem dX6_feastProperty_64 : decode cX6_feastProperty 64 = .ok (.if_icmp .ne 20, 3) := by decide +kernel
theorem dX6_feastProperty_67 : decode cX6_feastProperty 67 = .ok (.aload_n 0, 1) := by decide +kernel
theorem dX6_feastProperty_68 : decode cX6_feastProperty 68 = .ok (.getfield 12, 3) := by decide +kernel
theorem dX6_feastProperty_71 : decode cX6_feastProperty 71 = .ok (.getfield 281, 3) := by decide +kernel
theorem dX6_feastProperty_74 : decode cX6_feastProperty 74 = .ok (.iload_n 1, 1) := by decide +kernel
theorem dX6_feastProperty_75 : decode cX6_feastProperty 75 = .ok (.invokevirtual 105, 3) := by decide +kernel
theorem dX6_feastProperty_78 : decode cX6_feastProperty 78 = .ok (.bipush 90, 2) := by decide +kernel
theorem dX6_feastProperty_80 : decode cX6_feastProperty 80 = .ok (.iadd, 1) := by decide +kernel
theorem dX6_feastProperty_81 : decode cX6_feastProperty 81 = .ok (.goto 14, 3) := by decide +kernel
theorem dX6_feastProperty_84 : decode cX6_feastProperty 84 = .ok (.aload_n 0, 1) := by decide +kernel
theorem dX6_feastProperty_85 : decode cX6_feastProperty 85 = .ok (.getfield 12, 3) := by decide +kernel
theorem dX6_feastProperty_88 : decode cX6_feastProperty 88 = .ok (.getfield 281, 3) := by decide +kernel
theorem dX6_feastProperty_91 : decode cX6_feastProperty 91 = .ok (.iload_n 1, 1) := by decide +kernel
theorem dX6_feastProperty_92 : decode cX6_feastProperty 92 = .ok (.invokevirtual 105, 3) := by decide +kernel
theorem dX6_feastProperty_95 : decode cX6_feastProperty 95 = .ok (.ireturn, 1) := by decide +kernel
theorem dX6_feastProperty_96 : decode cX6_feastProperty 96 = .ok (.aload_n 0, 1) := by decide +kernel
theorem dX6_feastProperty_97 : decode cX6_feastProperty 97 = .ok (.getfield 12, 3) := by decide +kernel
theorem dX6_feastProperty_100 : decode cX6_feastProperty 100 = .ok (.getfield 284, 3) := by decide +kernel
theorem dX6_feastProperty_103 : decode cX6_feastProperty 103 = .ok (.iload_n 1, 1) := by decide +kernel
theorem dX6_feastProperty_104 : decode cX6_feastProperty 104 = .ok (.invokevirtual 105, 3) := by decide +kernel
theorem dX6_feastProperty_107 : decode cX6_feastProperty 107 = .ok (.ireturn, 1) := by decide +kernel
theorem dX6_stickProperty_0 : decode cX6_stickProperty 0 = .ok (.iload_n 2, 1) := by decide +kernel
theorem dX6_stickProperty_1 : decode cX6_stickProperty 1 = .ok (.tableswitch 73 0 3 #[31, 43, 55, 64], 31) := by decide +kernel
theorem dX6_stickProperty_32 : decode cX6_stickProperty 32 = .ok (.aload_n 0, 1) := by decide +kernel
theorem dX6_stickProperty_33 : decode cX6_stickProperty 33 = .ok (.getfield 12, 3) := by decide +kernel
theorem dX6_stickProperty_36 : decode cX6_stickProperty 36 = .ok (.getfield 139, 3) := by decide +kernel
theorem dX6_stickProperty_39 : decode cX6_stickProperty 39 = .ok (.iload_n 1, 1) := by decide +kernel
theorem dX6_stickProperty_40 : decode cX6_stickProperty 40 = .ok (.invokevirtual 105, 3) := by decide +kernel
theorem dX6_stickProperty_43 : decode cX6_stickProperty 43 = .ok (.ireturn, 1) := by decide +kernel
theorem dX6_stickProperty_44 : decode cX6_stickProperty 44 = .ok (.aload_n 0, 1) := by decide +kernel
theorem dX6_stickProperty_45 : decode cX6_stickProperty 45 = .ok (.getfield 12, 3) := by decide +kernel
theorem dX6_stickProperty_48 : decode cX6_stickProperty 48 = .ok (.getfield 287, 3) := by decide +kernel
theorem dX6_stickProperty_51 : decode cX6_stickProperty 51 = .ok (.iload_n 1, 1) := by decide +kernel
theorem dX6_stickProperty_52 : decode cX6_stickProperty 52 = .ok (.invokevirtual 105, 3) := by decide +kernel
theorem dX6_stickProperty_55 : decode cX6_stickProperty 55 = .ok (.ireturn, 1) := by decide +kernel
theorem dX6_stickProperty_56 : decode cX6_stickProperty 56 = .ok (.aload_n 0, 1) := by decide +kernel
theorem dX6_stickProperty_57 : decode cX6_stickProperty 57 = .ok (.getfield 12, 3) := by decide +kernel
theorem dX6_stickProperty_60 : decode cX6_stickProperty 60 = .ok (.iload_n 1, 1) := by decide +kernel
theorem dX6_stickProperty_61 : decode cX6_stickProperty 61 = .ok (.invokevirtual 133, 3) := by decide +kernel
theorem dX6_stickProperty_64 : decode cX6_stickProperty 64 = .ok (.ireturn, 1) := by decide +kernel
theorem dX6_stickProperty_65 : decode cX6_stickProperty 65 = .ok (.aload_n 0, 1) := by decide +kernel
theorem dX6_stickProperty_66 : decode cX6_stickProperty 66 = .ok (.iload_n 1, 1) := by decide +kernel
theorem dX6_stickProperty_67 : decode cX6_stickProperty 67 = .ok (.iload_n 1, 1) := by decide +kernel
theorem dX6_stickProperty_68 : decode cX6_stickProperty 68 = .ok (.iconst 1, 1) := by decide +kernel
theorem dX6_stickProperty_69 : decode cX6_stickProperty 69 = .ok (.iadd, 1) := by decide +kernel
theorem dX6_stickProperty_70 : decode cX6_stickProperty 70 = .ok (.invokevirtual 290, 3) := by decide +kernel
theorem dX6_stickProperty_73 : decode cX6_stickProperty 73 = .ok (.ireturn, 1) := by decide +kernel
theorem dX6_stickProperty_74 : decode cX6_stickProperty 74 = .ok (.aload_n 0, 1) := by decide +kernel
theorem dX6_stickProperty_75 : decode cX6_stickProperty 75 = .ok (.getfield 12, 3) := by decide +kernel
theorem dX6_stickProperty_78 : decode cX6_stickProperty 78 = .ok (.iload_n 1, 1) := by decide +kernel
theorem dX6_stickProperty_79 : decode cX6_stickProperty 79 = .ok (.iload_n 2, 1) := by decide +kernel
