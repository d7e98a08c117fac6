theorem dX6_stickProperty_80 : decode cX6_stickProperty 80 = .ok (.iconst 4, 1) := by decide +kernel
theorem dX6_stickProperty_81 : decode cX6_stickProperty 81 = .ok (.isub, 1) := by decide +kernel
theorem dX6_stickProperty_82 : decode cX6_stickProperty 82 = .ok (.invokevirtual 293, 3) := by decide +kernel
theorem dX6_stickProperty_85 : decode cX6_stickProperty 85 = .ok (.ireturn, 1) := by decide +kernel
theorem dX6_numberOf_0 : decode cX6_numberOf 0 = .ok (.iload_n 1, 1) := by decide +kernel
theorem dX6_numberOf_1 : decode cX6_numberOf 1 = .ok (.tableswitch 92 0 7 #[47, 55, 92, 92, 92, 63, 71, 84], 47) := by decide +kernel
theorem dX6_numberOf_48 : decode cX6_numberOf 48 = .ok (.aload_n 0, 1) := by decide +kernel
theorem dX6_numberOf_49 : decode cX6_numberOf 49 = .ok (.getfield 12, 3) := by decide +kernel
theorem dX6_numberOf_52 : decode cX6_numberOf 52 = .ok (.getfield 87, 3) := by decide +kernel
theorem dX6_numberOf_55 : decode cX6_numberOf 55 = .ok (.ireturn, 1) := by decide +kernel
theorem dX6_numberOf_56 : decode cX6_numberOf 56 = .ok (.aload_n 0, 1) := by decide +kernel
theorem dX6_numberOf_57 : decode cX6_numberOf 57 = .ok (.getfield 12, 3) := by decide +kernel
theorem dX6_numberOf_60 : decode cX6_numberOf 60 = .ok (.getfield 236, 3) := by decide +kernel
theorem dX6_numberOf_63 : decode cX6_numberOf 63 = .ok (.ireturn, 1) := by decide +kernel
theorem dX6_numberOf_64 : decode cX6_numberOf 64 = .ok (.aload_n 0, 1) := by decide +kernel
theorem dX6_numberOf_65 : decode cX6_numberOf 65 = .ok (.getfield 12, 3) := by decide +kernel
theorem dX6_numberOf_68 : decode cX6_numberOf 68 = .ok (.getfield 145, 3) := by decide +kernel
theorem dX6_numberOf_71 : decode cX6_numberOf 71 = .ok (.ireturn, 1) := by decide +kernel
theorem dX6_numberOf_72 : decode cX6_numberOf 72 = .ok (.aload_n 0, 1) := by decide +kernel
theorem dX6_numberOf_73 : decode cX6_numberOf 73 = .ok (.iconst 0, 1) := by decide +kernel
theorem dX6_numberOf_74 : decode cX6_numberOf 74 = .ok (.aload_n 0, 1) := by decide +kernel
theorem dX6_numberOf_75 : decode cX6_numberOf 75 = .ok (.getfield 12, 3) := by decide +kernel
theorem dX6_numberOf_78 : decode cX6_numberOf 78 = .ok (.getfield 236, 3) := by decide +kernel
theorem dX6_numberOf_81 : decode cX6_numberOf 81 = .ok (.invokevirtual 290, 3) := by decide +kernel
theorem dX6_numberOf_84 : decode cX6_numberOf 84 = .ok (.ireturn, 1) := by decide +kernel
theorem dX6_numberOf_85 : decode cX6_numberOf 85 = .ok (.aload_n 0, 1) := by decide +kernel
theorem dX6_numberOf_86 : decode cX6_numberOf 86 = .ok (.getfield 19, 3) := by decide +kernel
theorem dX6_numberOf_89 : decode cX6_numberOf 89 = .ok (.invokevirtual 161, 3) := by decide +kernel
theorem dX6_numberOf_92 : decode cX6_numberOf 92 = .ok (.ireturn, 1) := by decide +kernel
theorem dX6_numberOf_93 : decode cX6_numberOf 93 = .ok (.aload_n 0, 1) := by decide +kernel
theorem dX6_numberOf_94 : decode cX6_numberOf 94 = .ok (.getfield 12, 3) := by decide +kernel
theorem dX6_numberOf_97 : decode cX6_numberOf 97 = .ok (.getfield 116, 3) := by decide +kernel
theorem dX6_numberOf_100 : decode cX6_numberOf 100 = .ok (.iload_n 1, 1) := by decide +kernel
theorem dX6_numberOf_101 : decode cX6_numberOf 101 = .ok (.iconst 2, 1) := by decide +kernel
theorem dX6_numberOf_102 : decode cX6_numberOf 102 = .ok (.isub, 1) := by decide +kernel
theorem dX6_numberOf_103 : decode cX6_numberOf 103 = .ok (.invokevirtual 105, 3) := by decide +kernel
theorem dX6_numberOf_106 : decode cX6_numberOf 106 = .ok (.iconst 5, 1) := by decide +kernel
theorem dX6_numberOf_107 : decode cX6_numberOf 107 = .ok (.iadd, 1) := by decide +kernel
theorem dX6_numberOf_108 : decode cX6_numberOf 108 = .ok (.ireturn, 1) := by decide +kernel
theorem dX6_staleFeasts_0 : decode cX6_staleFeasts 0 = .ok (.iconst 0, 1) := by decide +kernel
theorem dX6_staleFeasts_1 : decode cX6_staleFeasts 1 = .ok (.istore_n 3, 1) := by decide +kernel
theorem dX6_staleFeasts_2 : decode cX6_staleFeasts 2 = .ok (.iload_n 1, 1) := by decide +kernel
theorem dX6_staleFeasts_3 : decode cX6_staleFeasts 3 = .ok (.istore 4, 2) := by decide +kernel
theorem dX6_staleFeasts_5 : decode cX6_staleFeasts 5 = .ok (.iload 4, 2) := by decide +kernel
theorem dX6_staleFeasts_7 : decode cX6_staleFeasts 7 = .ok (.iload_n 2, 1) := by decide +kernel
theorem dX6_staleFeasts_8 : decode cX6_staleFeasts 8 = .ok (.if_icmp .ge 137, 3) := by decide +kernel
theorem dX6_staleFeasts_11 : decode cX6_staleFeasts 11 = .ok (.aload_n 0, 1) := by decide +kernel
theorem dX6_staleFeasts_12 : decode cX6_staleFeasts 12 = .ok (.getfield 42, 3) := by decide +kernel
theorem dX6_staleFeasts_15 : decode cX6_staleFeasts 15 = .ok (.aload_n 0, 1) := by decide +kernel
theorem dX6_staleFeasts_16 : decode cX6_staleFeasts 16 = .ok (.getfield 12, 3) := by decide +kernel
theorem dX6_staleFeasts_19 : decode cX6_staleFeasts 19 = .ok (.aload_n 0, 1) := by decide +kernel
theorem dX6_staleFeasts_20 : decode cX6_staleFeasts 20 = .ok (.getfield 12, 3) := by decide +kernel
theorem dX6_staleFeasts_23 : decode cX6_staleFeasts 23 = .ok (.getfield 139, 3) := by decide +kernel
theorem dX6_staleFeasts_26 : decode cX6_staleFeasts 26 = .ok (.iload 4, 2) := by decide +kernel
theorem dX6_staleFeasts_28 : decode cX6_staleFeasts 28 = .ok (.invokevirtual 105, 3) := by decide +kernel
theorem dX6_staleFeasts_31 : decode cX6_staleFeasts 31 = .ok (.aload_n 0, 1) := by decide +kernel
theorem dX6_staleFeasts_32 : decode cX6_staleFeasts 32 = .ok (.getfield 12, 3) := by decide +kernel
theorem dX6_staleFeasts_35 : decode cX6_staleFeasts 35 = .ok (.getfield 116, 3) := by decide +kernel
theorem dX6_staleFeasts_38 : decode cX6_staleFeasts 38 = .ok (.aload_n 0, 1) := by decide +kernel
theorem dX6_staleFeasts_39 : decode cX6_staleFeasts 39 = .ok (.getfield 12, 3) := by decide +kernel
theorem dX6_staleFeasts_42 : decode cX6_staleFeasts 42 = .ok (.getfield 287, 3) := by decide +kernel
theorem dX6_staleFeasts_45 : decode cX6_staleFeasts 45 = .ok (.iload 4, 2) := by decide +kernel
theorem dX6_staleFeasts_47 : decode cX6_staleFeasts 47 = .ok (.invokevirtual 105, 3) := by decide +kernel
theorem dX6_staleFeasts_50 : decode cX6_staleFeasts 50 = .ok (.invokevirtual 105, 3) := by decide +kernel
theorem dX6_staleFeasts_53 : decode cX6_staleFeasts 53 = .ok (.invokevirtual 122, 3) := by decide +kernel
theorem dX6_staleFeasts_56 : decode cX6_staleFeasts 56 = .ok (.aload_n 0, 1) := by decide +kernel
theorem dX6_staleFeasts_57 : decode cX6_staleFeasts 57 = .ok (.getfield 12, 3) := by decide +kernel
theorem dX6_staleFeasts_60 : decode cX6_staleFeasts 60 = .ok (.getfield 296, 3) := by decide +kernel
theorem dX6_staleFeasts_63 : decode cX6_staleFeasts 63 = .ok (.iload 4, 2) := by decide +kernel
theorem dX6_staleFeasts_65 : decode cX6_staleFeasts 65 = .ok (.invokevirtual 105, 3) := by decide +kernel
theorem dX6_staleFeasts_68 : decode cX6_staleFeasts 68 = .ok (.istore 5, 2) := by decide +kernel
theorem dX6_staleFeasts_70 : decode cX6_staleFeasts 70 = .ok (.iconst 0, 1) := by decide +kernel
theorem dX6_staleFeasts_71 : decode cX6_staleFeasts 71 = .ok (.istore 6, 2) := by decide +kernel
theorem dX6_staleFeasts_73 : decode cX6_staleFeasts 73 = .ok (.iload 6, 2) := by decide +kernel
theorem dX6_staleFeasts_75 : decode cX6_staleFeasts 75 = .ok (.iload 5, 2) := by decide +kernel
theorem dX6_staleFeasts_77 : decode cX6_staleFeasts 77 = .ok (.if_icmp .ge 62, 3) := by decide +kernel
theorem dX6_staleFeasts_80 : decode cX6_staleFeasts 80 = .ok (.iload 6, 2) := by decide +kernel
theorem dX6_staleFeasts_82 : decode cX6_staleFeasts 82 = .ok (.aload_n 0, 1) := by decide +kernel
theorem dX6_staleFeasts_83 : decode cX6_staleFeasts 83 = .ok (.getfield 12, 3) := by decide +kernel
theorem dX6_staleFeasts_86 : decode cX6_staleFeasts 86 = .ok (.getfield 87, 3) := by decide +kernel
theorem dX6_staleFeasts_89 : decode cX6_staleFeasts 89 = .ok (.if_icmp .lt 7, 3) := by decide +kernel
theorem dX6_staleFeasts_92 : decode cX6_staleFeasts 92 = .ok (.iconst 1, 1) := by decide +kernel
theorem dX6_staleFeasts_93 : decode cX6_staleFeasts 93 = .ok (.goto 4, 3) := by decide +kernel
theorem dX6_staleFeasts_96 : decode cX6_staleFeasts 96 = .ok (.iconst 0, 1) := by decide +kernel
theorem dX6_staleFeasts_97 : decode cX6_staleFeasts 97 = .ok (.istore 7, 2) := by decide +kernel
theorem dX6_staleFeasts_99 : decode cX6_staleFeasts 99 = .ok (.iload 7, 2) := by decide +kernel
theorem dX6_staleFeasts_101 : decode cX6_staleFeasts 101 = .ok (.ifCond .ne 29, 3) := by decide +kernel
theorem dX6_staleFeasts_104 : decode cX6_staleFeasts 104 = .ok (.aload_n 0, 1) := by decide +kernel
theorem dX6_staleFeasts_105 : decode cX6_staleFeasts 105 = .ok (.getfield 42, 3) := by decide +kernel
theorem dX6_staleFeasts_108 : decode cX6_staleFeasts 108 = .ok (.getfield 126, 3) := by decide +kernel
theorem dX6_staleFeasts_111 : decode cX6_staleFeasts 111 = .ok (.iload 6, 2) := by decide +kernel
theorem dX6_staleFeasts_113 : decode cX6_staleFeasts 113 = .ok (.invokevirtual 105, 3) := by decide +kernel
theorem dX6_staleFeasts_116 : decode cX6_staleFeasts 116 = .ok (.aload_n 0, 1) := by decide +kernel
theorem dX6_staleFeasts_117 : decode cX6_staleFeasts 117 = .ok (.getfield 12, 3) := by decide +kernel
theorem dX6_staleFeasts_120 : decode cX6_staleFeasts 120 = .ok (.iload 4, 2) := by decide +kernel
theorem dX6_staleFeasts_122 : decode cX6_staleFeasts 122 = .ok (.iload 6, 2) := by decide +kernel
theorem dX6_staleFeasts_124 : decode cX6_staleFeasts 124 = .ok (.invokevirtual 293, 3) := by decide +kernel
theorem dX6_staleFeasts_127 : decode cX6_staleFeasts 127 = .ok (.if_icmp .eq 6, 3) := by decide +kernel
theorem dX6_staleFeasts_130 : decode cX6_staleFeasts 130 = .ok (.iinc 3 1, 3) := by decide +kernel
theorem dX6_staleFeasts_133 : decode cX6_staleFeasts 133 = .ok (.iinc 6 1, 3) := by decide +kernel
theorem dX6_staleFeasts_136 : decode cX6_staleFeasts 136 = .ok (.goto (-63), 3) := by decide +kernel
theorem dX6_staleFeasts_139 : decode cX6_staleFeasts 139 = .ok (.iinc 4 1, 3) := by decide +kernel
theorem dX6_staleFeasts_142 : decode cX6_staleFeasts 142 = .ok (.goto (-137), 3) := by decide +kernel
theorem dX6_staleFeasts_145 : decode cX6_staleFeasts 145 = .ok (.iload_n 3, 1) := by decide +kernel
theorem dX6_staleFeasts_146 : decode cX6_staleFeasts 146 = .ok (.ireturn, 1) := by decide +kernel
theorem dX6_freshPart_0 : decode cX6_freshPart 0 = .ok (.iconst 0, 1) := by decide +kernel
theorem dX6_freshPart_1 : decode cX6_freshPart 1 = .ok (.istore_n 1, 1) := by decide +kernel
theorem dX6_freshPart_2 : decode cX6_freshPart 2 = .ok (.iconst 0, 1) := by decide +kernel
theorem dX6_freshPart_3 : decode cX6_freshPart 3 = .ok (.istore_n 2, 1) := by decide +kernel
theorem dX6_freshPart_4 : decode cX6_freshPart 4 = .ok (.iload_n 2, 1) := by decide +kernel
theorem dX6_freshPart_5 : decode cX6_freshPart 5 = .ok (.aload_n 0, 1) := by decide +kernel
theorem dX6_freshPart_6 : decode cX6_freshPart 6 = .ok (.getfield 12, 3) := by decide +kernel
theorem dX6_freshPart_9 : decode cX6_freshPart 9 = .ok (.getfield 236, 3) := by decide +kernel
theorem dX6_freshPart_12 : decode cX6_freshPart 12 = .ok (.if_icmp .ge 23, 3) := by decide +kernel
theorem dX6_freshPart_15 : decode cX6_freshPart 15 = .ok (.iload_n 1, 1) := by decide +kernel
theorem dX6_freshPart_16 : decode cX6_freshPart 16 = .ok (.aload_n 0, 1) := by decide +kernel
theorem dX6_freshPart_17 : decode cX6_freshPart 17 = .ok (.getfield 12, 3) := by decide +kernel
theorem dX6_freshPart_20 : decode cX6_freshPart 20 = .ok (.getfield 296, 3) := by decide +kernel
theorem dX6_freshPart_23 : decode cX6_freshPart 23 = .ok (.iload_n 2, 1) := by decide +kernel
theorem dX6_freshPart_24 : decode cX6_freshPart 24 = .ok (.invokevirtual 105, 3) := by decide +kernel
theorem dX6_freshPart_27 : decode cX6_freshPart 27 = .ok (.iadd, 1) := by decide +kernel
theorem dX6_freshPart_28 : decode cX6_freshPart 28 = .ok (.istore_n 1, 1) := by decide +kernel
theorem dX6_freshPart_29 : decode cX6_freshPart 29 = .ok (.iinc 2 1, 3) := by decide +kernel
theorem dX6_freshPart_32 : decode cX6_freshPart 32 = .ok (.goto (-28), 3) := by decide +kernel
theorem dX6_freshPart_35 : decode cX6_freshPart 35 = .ok (.iload_n 1, 1) := by decide +kernel
theorem dX6_freshPart_36 : decode cX6_freshPart 36 = .ok (.ifCond .gt 5, 3) := by decide +kernel
theorem dX6_freshPart_39 : decode cX6_freshPart 39 = .ok (.dconst 1, 1) := by decide +kernel
theorem dX6_freshPart_40 : decode cX6_freshPart 40 = .ok (.dreturn, 1) := by decide +kernel
theorem dX6_freshPart_41 : decode cX6_freshPart 41 = .ok (.iload_n 1, 1) := by decide +kernel
theorem dX6_freshPart_42 : decode cX6_freshPart 42 = .ok (.aload_n 0, 1) := by decide +kernel
theorem dX6_freshPart_43 : decode cX6_freshPart 43 = .ok (.iconst 0, 1) := by decide +kernel
theorem dX6_freshPart_44 : decode cX6_freshPart 44 = .ok (.aload_n 0, 1) := by decide +kernel
theorem dX6_freshPart_45 : decode cX6_freshPart 45 = .ok (.getfield 12, 3) := by decide +kernel
theorem dX6_freshPart_48 : decode cX6_freshPart 48 = .ok (.getfield 236, 3) := by decide +kernel
theorem dX6_freshPart_51 : decode cX6_freshPart 51 = .ok (.invokevirtual 290, 3) := by decide +kernel
theorem dX6_freshPart_54 : decode cX6_freshPart 54 = .ok (.isub, 1) := by decide +kernel
theorem dX6_freshPart_55 : decode cX6_freshPart 55 = .ok (.istore_n 2, 1) := by decide +kernel
theorem dX6_freshPart_56 : decode cX6_freshPart 56 = .ok (.iload_n 2, 1) := by decide +kernel
theorem dX6_freshPart_57 : decode cX6_freshPart 57 = .ok (.i2d, 1) := by decide +kernel
theorem dX6_freshPart_58 : decode cX6_freshPart 58 = .ok (.iload_n 1, 1) := by decide +kernel
theorem dX6_freshPart_59 : decode cX6_freshPart 59 = .ok (.i2d, 1) := by decide +kernel
theorem dX6_freshPart_60 : decode cX6_freshPart 60 = .ok (.ddiv, 1) := by decide +kernel
theorem dX6_freshPart_61 : decode cX6_freshPart 61 = .ok (.dreturn, 1) := by decide +kernel
theorem dX6_outermost_0 : decode cX6_outermost 0 = .ok (.iconst (-1), 1) := by decide +kernel
theorem dX6_outermost_1 : decode cX6_outermost 1 = .ok (.istore 5, 2) := by decide +kernel
theorem dX6_outermost_3 : decode cX6_outermost 3 = .ok (.iload_n 2, 1) := by decide +kernel
theorem dX6_outermost_4 : decode cX6_outermost 4 = .ok (.istore 6, 2) := by decide +kernel
theorem dX6_outermost_6 : decode cX6_outermost 6 = .ok (.iload 6, 2) := by decide +kernel
theorem dX6_outermost_8 : decode cX6_outermost 8 = .ok (.iload_n 2, 1) := by decide +kernel
theorem dX6_outermost_9 : decode cX6_outermost 9 = .ok (.iload_n 3, 1) := by decide +kernel
theorem dX6_outermost_10 : decode cX6_outermost 10 = .ok (.iadd, 1) := by decide +kernel
theorem dX6_outermost_11 : decode cX6_outermost 11 = .ok (.if_icmp .ge 78, 3) := by decide +kernel
theorem dX6_outermost_14 : decode cX6_outermost 14 = .ok (.iload 6, 2) := by decide +kernel
theorem dX6_outermost_16 : decode cX6_outermost 16 = .ok (.sipush 999, 3) := by decide +kernel
theorem dX6_outermost_19 : decode cX6_outermost 19 = .ok (.if_icmp .gt 70, 3) := by decide +kernel
theorem dX6_outermost_22 : decode cX6_outermost 22 = .ok (.aload_n 0, 1) := by decide +kernel
theorem dX6_outermost_23 : decode cX6_outermost 23 = .ok (.getfield 49, 3) := by decide +kernel
theorem dX6_outermost_26 : decode cX6_outermost 26 = .ok (.aload_n 0, 1) := by decide +kernel
theorem dX6_outermost_27 : decode cX6_outermost 27 = .ok (.getfield 12, 3) := by decide +kernel
theorem dX6_outermost_30 : decode cX6_outermost 30 = .ok (.iload 6, 2) := by decide +kernel
theorem dX6_outermost_32 : decode cX6_outermost 32 = .ok (.invokevirtual 187, 3) := by decide +kernel
theorem dX6_outermost_35 : decode cX6_outermost 35 = .ok (.aload_n 0, 1) := by decide +kernel
theorem dX6_outermost_36 : decode cX6_outermost 36 = .ok (.getfield 49, 3) := by decide +kernel
theorem dX6_outermost_39 : decode cX6_outermost 39 = .ok (.iload_n 1, 1) := by decide +kernel
theorem dX6_outermost_40 : decode cX6_outermost 40 = .ok (.invokevirtual 191, 3) := by decide +kernel
theorem dX6_outermost_43 : decode cX6_outermost 43 = .ok (.istore 7, 2) := by decide +kernel
theorem dX6_outermost_45 : decode cX6_outermost 45 = .ok (.iload 7, 2) := by decide +kernel
theorem dX6_outermost_47 : decode cX6_outermost 47 = .ok (.iconst (-1), 1) := by decide +kernel
theorem dX6_outermost_48 : decode cX6_outermost 48 = .ok (.if_icmp .eq 35, 3) := by decide +kernel
theorem dX6_outermost_51 : decode cX6_outermost 51 = .ok (.iload 5, 2) := by decide +kernel
theorem dX6_outermost_53 : decode cX6_outermost 53 = .ok (.iconst (-1), 1) := by decide +kernel
theorem dX6_outermost_54 : decode cX6_outermost 54 = .ok (.if_icmp .eq 25, 3) := by decide +kernel
theorem dX6_outermost_57 : decode cX6_outermost 57 = .ok (.iload 4, 2) := by decide +kernel
theorem dX6_outermost_59 : decode cX6_outermost 59 = .ok (.ifCond .eq 13, 3) := by decide +kernel
theorem dX6_outermost_62 : decode cX6_outermost 62 = .ok (.iload 7, 2) := by decide +kernel
theorem dX6_outermost_64 : decode cX6_outermost 64 = .ok (.iload 5, 2) := by decide +kernel
theorem dX6_outermost_66 : decode cX6_outermost 66 = .ok (.if_icmp .le 17, 3) := by decide +kernel
theorem dX6_outermost_69 : decode cX6_outermost 69 = .ok (.goto 10, 3) := by decide +kernel
theorem dX6_outermost_72 : decode cX6_outermost 72 = .ok (.iload 7, 2) := by decide +kernel
theorem dX6_outermost_74 : decode cX6_outermost 74 = .ok (.iload 5, 2) := by decide +kernel
theorem dX6_outermost_76 : decode cX6_outermost 76 = .ok (.if_icmp .ge 7, 3) := by decide +kernel
theorem dX6_outermost_79 : decode cX6_outermost 79 = .ok (.iload 7, 2) := by decide +kernel
theorem dX6_outermost_81 : decode cX6_outermost 81 = .ok (.istore 5, 2) := by decide +kernel
theorem dX6_outermost_83 : decode cX6_outermost 83 = .ok (.iinc 6 1, 3) := by decide +kernel
theorem dX6_outermost_86 : decode cX6_outermost 86 = .ok (.goto (-80), 3) := by decide +kernel
theorem dX6_outermost_89 : decode cX6_outermost 89 = .ok (.iload 5, 2) := by decide +kernel
theorem dX6_outermost_91 : decode cX6_outermost 91 = .ok (.ireturn, 1) := by decide +kernel
theorem dX6_nextAlike_0 : decode cX6_nextAlike 0 = .ok (.aload_n 0, 1) := by decide +kernel
theorem dX6_nextAlike_1 : decode cX6_nextAlike 1 = .ok (.getfield 49, 3) := by decide +kernel
theorem dX6_nextAlike_4 : decode cX6_nextAlike 4 = .ok (.aload_n 0, 1) := by decide +kernel
theorem dX6_nextAlike_5 : decode cX6_nextAlike 5 = .ok (.getfield 12, 3) := by decide +kernel
theorem dX6_nextAlike_8 : decode cX6_nextAlike 8 = .ok (.iload_n 1, 1) := by decide +kernel
theorem dX6_nextAlike_9 : decode cX6_nextAlike 9 = .ok (.invokevirtual 187, 3) := by decide +kernel
theorem dX6_nextAlike_12 : decode cX6_nextAlike 12 = .ok (.iload_n 1, 1) := by decide +kernel
theorem dX6_nextAlike_13 : decode cX6_nextAlike 13 = .ok (.iconst 1, 1) := by decide +kernel
theorem dX6_nextAlike_14 : decode cX6_nextAlike 14 = .ok (.iadd, 1) := by decide +kernel
theorem dX6_nextAlike_15 : decode cX6_nextAlike 15 = .ok (.istore_n 2, 1) := by decide +kernel
theorem dX6_nextAlike_16 : decode cX6_nextAlike 16 = .ok (.iload_n 2, 1) := by decide +kernel
theorem dX6_nextAlike_17 : decode cX6_nextAlike 17 = .ok (.iload_n 1, 1) := by decide +kernel
theorem dX6_nextAlike_18 : decode cX6_nextAlike 18 = .ok (.bipush 100, 2) := by decide +kernel
theorem dX6_nextAlike_20 : decode cX6_nextAlike 20 = .ok (.iadd, 1) := by decide +kernel
theorem dX6_nextAlike_21 : decode cX6_nextAlike 21 = .ok (.if_icmp .gt 73, 3) := by decide +kernel
theorem dX6_nextAlike_24 : decode cX6_nextAlike 24 = .ok (.iload_n 2, 1) := by decide +kernel
theorem dX6_nextAlike_25 : decode cX6_nextAlike 25 = .ok (.sipush 999, 3) := by decide +kernel
theorem dX6_nextAlike_28 : decode cX6_nextAlike 28 = .ok (.if_icmp .gt 66, 3) := by decide +kernel
theorem dX6_nextAlike_31 : decode cX6_nextAlike 31 = .ok (.iload_n 2, 1) := by decide +kernel
theorem dX6_nextAlike_32 : decode cX6_nextAlike 32 = .ok (.invokestatic 164, 3) := by decide +kernel
theorem dX6_nextAlike_35 : decode cX6_nextAlike 35 = .ok (.iload_n 1, 1) := by decide +kernel
theorem dX6_nextAlike_36 : decode cX6_nextAlike 36 = .ok (.invokestatic 164, 3) := by decide +kernel
theorem dX6_nextAlike_39 : decode cX6_nextAlike 39 = .ok (.if_icmp .ne 49, 3) := by decide +kernel
theorem dX6_nextAlike_42 : decode cX6_nextAlike 42 = .ok (.iload_n 2, 1) := by decide +kernel
theorem dX6_nextAlike_43 : decode cX6_nextAlike 43 = .ok (.invokestatic 167, 3) := by decide +kernel
theorem dX6_nextAlike_46 : decode cX6_nextAlike 46 = .ok (.iload_n 1, 1) := by decide +kernel
theorem dX6_nextAlike_47 : decode cX6_nextAlike 47 = .ok (.invokestatic 167, 3) := by decide +kernel
theorem dX6_nextAlike_50 : decode cX6_nextAlike 50 = .ok (.if_icmp .ne 38, 3) := by decide +kernel
theorem dX6_nextAlike_53 : decode cX6_nextAlike 53 = .ok (.aload_n 0, 1) := by decide +kernel
theorem dX6_nextAlike_54 : decode cX6_nextAlike 54 = .ok (.getfield 53, 3) := by decide +kernel
theorem dX6_nextAlike_57 : decode cX6_nextAlike 57 = .ok (.aload_n 0, 1) := by decide +kernel
theorem dX6_nextAlike_58 : decode cX6_nextAlike 58 = .ok (.getfield 12, 3) := by decide +kernel
theorem dX6_nextAlike_61 : decode cX6_nextAlike 61 = .ok (.iload_n 2, 1) := by decide +kernel
theorem dX6_nextAlike_62 : decode cX6_nextAlike 62 = .ok (.invokevirtual 187, 3) := by decide +kernel
theorem dX6_nextAlike_65 : decode cX6_nextAlike 65 = .ok (.aload_n 0, 1) := by decide +kernel
theorem dX6_nextAlike_66 : decode cX6_nextAlike 66 = .ok (.getfield 53, 3) := by decide +kernel
theorem dX6_nextAlike_69 : decode cX6_nextAlike 69 = .ok (.aload_n 0, 1) := by decide +kernel
theorem dX6_nextAlike_70 : decode cX6_nextAlike 70 = .ok (.getfield 49, 3) := by decide +kernel
theorem dX6_nextAlike_73 : decode cX6_nextAlike 73 = .ok (.aload_n 0, 1) := by decide +kernel
theorem dX6_nextAlike_74 : decode cX6_nextAlike 74 = .ok (.getfield 12, 3) := by decide +kernel
theorem dX6_nextAlike_77 : decode cX6_nextAlike 77 = .ok (.getfield 87, 3) := by decide +kernel
theorem dX6_nextAlike_80 : decode cX6_nextAlike 80 = .ok (.invokevirtual 299, 3) := by decide +kernel
theorem dX6_nextAlike_83 : decode cX6_nextAlike 83 = .ok (.ifCond .eq 5, 3) := by decide +kernel
theorem dX6_nextAlike_86 : decode cX6_nextAlike 86 = .ok (.iload_n 2, 1) := by decide +kernel
theorem dX6_nextAlike_87 : decode cX6_nextAlike 87 = .ok (.ireturn, 1) := by decide +kernel
theorem dX6_nextAlike_88 : decode cX6_nextAlike 88 = .ok (.iinc 2 1, 3) := by decide +kernel
theorem dX6_nextAlike_91 : decode cX6_nextAlike 91 = .ok (.goto (-75), 3) := by decide +kernel
theorem dX6_nextAlike_94 : decode cX6_nextAlike 94 = .ok (.iconst (-1), 1) := by decide +kernel
theorem dX6_nextAlike_95 : decode cX6_nextAlike 95 = .ok (.ireturn, 1) := by decide +kernel
theorem dX6_calmestSlip_0 : decode cX6_calmestSlip 0 = .ok (.aload_n 0, 1) := by decide +kernel
theorem dX6_calmestSlip_1 : decode cX6_calmestSlip 1 = .ok (.getfield 49, 3) := by decide +kernel
theorem dX6_calmestSlip_4 : decode cX6_calmestSlip 4 = .ok (.aload_n 0, 1) := by decide +kernel
theorem dX6_calmestSlip_5 : decode cX6_calmestSlip 5 = .ok (.getfield 12, 3) := by decide +kernel
theorem dX6_calmestSlip_8 : decode cX6_calmestSlip 8 = .ok (.iload_n 2, 1) := by decide +kernel
theorem dX6_calmestSlip_9 : decode cX6_calmestSlip 9 = .ok (.invokevirtual 187, 3) := by decide +kernel
theorem dX6_calmestSlip_12 : decode cX6_calmestSlip 12 = .ok (.iconst 0, 1) := by decide +kernel
theorem dX6_calmestSlip_13 : decode cX6_calmestSlip 13 = .ok (.istore_n 3, 1) := by decide +kernel
theorem dX6_calmestSlip_14 : decode cX6_calmestSlip 14 = .ok (.bipush 11, 2) := by decide +kernel
theorem dX6_calmestSlip_16 : decode cX6_calmestSlip 16 = .ok (.istore 4, 2) := by decide +kernel
theorem dX6_calmestSlip_18 : decode cX6_calmestSlip 18 = .ok (.iconst 0, 1) := by decide +kernel
theorem dX6_calmestSlip_19 : decode cX6_calmestSlip 19 = .ok (.istore 5, 2) := by decide +kernel
theorem dX6_calmestSlip_21 : decode cX6_calmestSlip 21 = .ok (.iload 5, 2) := by decide +kernel
theorem dX6_calmestSlip_23 : decode cX6_calmestSlip 23 = .ok (.bipush 10, 2) := by decide +kernel
theorem dX6_calmestSlip_25 : decode cX6_calmestSlip 25 = .ok (.if_icmp .gt 83, 3) := by decide +kernel
theorem dX6_calmestSlip_28 : decode cX6_calmestSlip 28 = .ok (.iload 5, 2) := by decide +kernel
theorem dX6_calmestSlip_30 : decode cX6_calmestSlip 30 = .ok (.iconst 1, 1) := by decide +kernel
theorem dX6_calmestSlip_31 : decode cX6_calmestSlip 31 = .ok (.iadd, 1) := by decide +kernel
theorem dX6_calmestSlip_32 : decode cX6_calmestSlip 32 = .ok (.iconst 2, 1) := by decide +kernel
theorem dX6_calmestSlip_33 : decode cX6_calmestSlip 33 = .ok (.idiv, 1) := by decide +kernel
theorem dX6_calmestSlip_34 : decode cX6_calmestSlip 34 = .ok (.istore 6, 2) := by decide +kernel
theorem dX6_calmestSlip_36 : decode cX6_calmestSlip 36 = .ok (.iload 5, 2) := by decide +kernel
theorem dX6_calmestSlip_38 : decode cX6_calmestSlip 38 = .ok (.iconst 2, 1) := by decide +kernel
theorem dX6_calmestSlip_39 : decode cX6_calmestSlip 39 = .ok (.irem, 1) := by decide +kernel
theorem dX6_calmestSlip_40 : decode cX6_calmestSlip 40 = .ok (.iconst 1, 1) := by decide +kernel
theorem dX6_calmestSlip_41 : decode cX6_calmestSlip 41 = .ok (.if_icmp .ne 9, 3) := by decide +kernel
theorem dX6_calmestSlip_44 : decode cX6_calmestSlip 44 = .ok (.iload 6, 2) := by decide +kernel
theorem dX6_calmestSlip_46 : decode cX6_calmestSlip 46 = .ok (.ineg, 1) := by decide +kernel
theorem dX6_calmestSlip_47 : decode cX6_calmestSlip 47 = .ok (.goto 5, 3) := by decide +kernel
theorem dX6_calmestSlip_50 : decode cX6_calmestSlip 50 = .ok (.iload 6, 2) := by decide +kernel
theorem dX6_calmestSlip_52 : decode cX6_calmestSlip 52 = .ok (.istore 7, 2) := by decide +kernel
theorem dX6_calmestSlip_54 : decode cX6_calmestSlip 54 = .ok (.aload_n 0, 1) := by decide +kernel
theorem dX6_calmestSlip_55 : decode cX6_calmestSlip 55 = .ok (.getfield 49, 3) := by decide +kernel
theorem dX6_calmestSlip_58 : decode cX6_calmestSlip 58 = .ok (.iload_n 1, 1) := by decide +kernel
theorem dX6_calmestSlip_59 : decode cX6_calmestSlip 59 = .ok (.invokevirtual 303, 3) := by decide +kernel
theorem dX6_calmestSlip_62 : decode cX6_calmestSlip 62 = .ok (.aload_n 0, 1) := by decide +kernel
theorem dX6_calmestSlip_63 : decode cX6_calmestSlip 63 = .ok (.getfield 12, 3) := by decide +kernel
theorem dX6_calmestSlip_66 : decode cX6_calmestSlip 66 = .ok (.iload_n 2, 1) := by decide +kernel
theorem dX6_calmestSlip_67 : decode cX6_calmestSlip 67 = .ok (.iload 7, 2) := by decide +kernel
theorem dX6_calmestSlip_69 : decode cX6_calmestSlip 69 = .ok (.invokevirtual 122, 3) := by decide +kernel
theorem dX6_calmestSlip_72 : decode cX6_calmestSlip 72 = .ok (.aload_n 0, 1) := by decide +kernel
theorem dX6_calmestSlip_73 : decode cX6_calmestSlip 73 = .ok (.getfield 49, 3) := by decide +kernel
theorem dX6_calmestSlip_76 : decode cX6_calmestSlip 76 = .ok (.aload_n 0, 1) := by decide +kernel
theorem dX6_calmestSlip_77 : decode cX6_calmestSlip 77 = .ok (.getfield 12, 3) := by decide +kernel
theorem dX6_calmestSlip_80 : decode cX6_calmestSlip 80 = .ok (.getfield 87, 3) := by decide +kernel
theorem dX6_calmestSlip_83 : decode cX6_calmestSlip 83 = .ok (.invokevirtual 194, 3) := by decide +kernel
theorem dX6_calmestSlip_86 : decode cX6_calmestSlip 86 = .ok (.istore 8, 2) := by decide +kernel
theorem dX6_calmestSlip_88 : decode cX6_calmestSlip 88 = .ok (.iload 8, 2) := by decide +kernel
theorem dX6_calmestSlip_90 : decode cX6_calmestSlip 90 = .ok (.iload 4, 2) := by decide +kernel
theorem dX6_calmestSlip_92 : decode cX6_calmestSlip 92 = .ok (.if_icmp .ge 10, 3) := by decide +kernel
theorem dX6_calmestSlip_95 : decode cX6_calmestSlip 95 = .ok (.iload 8, 2) := by decide +kernel
theorem dX6_calmestSlip_97 : decode cX6_calmestSlip 97 = .ok (.istore 4, 2) := by decide +kernel
theorem dX6_calmestSlip_99 : decode cX6_calmestSlip 99 = .ok (.iload 7, 2) := by decide +kernel
theorem dX6_calmestSlip_101 : decode cX6_calmestSlip 101 = .ok (.istore_n 3, 1) := by decide +kernel
theorem dX6_calmestSlip_102 : decode cX6_calmestSlip 102 = .ok (.iinc 5 1, 3) := by decide +kernel
theorem dX6_calmestSlip_105 : decode cX6_calmestSlip 105 = .ok (.goto (-84), 3) := by decide +kernel
theorem dX6_calmestSlip_108 : decode cX6_calmestSlip 108 = .ok (.iload_n 3, 1) := by decide +kernel
theorem dX6_calmestSlip_109 : decode cX6_calmestSlip 109 = .ok (.ireturn, 1) := by decide +kernel
theorem dX6_mixed_0 : decode cX6_mixed 0 = .ok (.ldc2_w 307, 3) := by decide +kernel
theorem dX6_mixed_3 : decode cX6_mixed 3 = .ok (.lload_n 0, 1) := by decide +kernel
theorem dX6_mixed_4 : decode cX6_mixed 4 = .ok (.lmul, 1) := by decide +kernel
theorem dX6_mixed_5 : decode cX6_mixed 5 = .ok (.lload_n 2, 1) := by decide +kernel
theorem dX6_mixed_6 : decode cX6_mixed 6 = .ok (.ladd, 1) := by decide +kernel
theorem dX6_mixed_7 : decode cX6_mixed 7 = .ok (.lreturn, 1) := by decide +kernel
theorem dX6_gatherDigestCouncils_0 : decode cX6_gatherDigestCouncils 0 = .ok (.iconst 0, 1) := by decide +kernel
theorem dX6_gatherDigestCouncils_1 : decode cX6_gatherDigestCouncils 1 = .ok (.istore_n 1, 1) := by decide +kernel
theorem dX6_gatherDigestCouncils_2 : decode cX6_gatherDigestCouncils 2 = .ok (.iload_n 1, 1) := by decide +kernel
theorem dX6_gatherDigestCouncils_3 : decode cX6_gatherDigestCouncils 3 = .ok (.aload_n 0, 1) := by decide +kernel
theorem dX6_gatherDigestCouncils_4 : decode cX6_gatherDigestCouncils 4 = .ok (.getfield 60, 3) := by decide +kernel
theorem dX6_gatherDigestCouncils_7 : decode cX6_gatherDigestCouncils 7 = .ok (.arraylength, 1) := by decide +kernel
theorem dX6_gatherDigestCouncils_8 : decode cX6_gatherDigestCouncils 8 = .ok (.if_icmp .ge 41, 3) := by decide +kernel
theorem dX6_gatherDigestCouncils_11 : decode cX6_gatherDigestCouncils 11 = .ok (.iload_n 1, 1) := by decide +kernel
theorem dX6_gatherDigestCouncils_12 : decode cX6_gatherDigestCouncils 12 = .ok (.getstatic 56, 3) := by decide +kernel
theorem dX6_gatherDigestCouncils_15 : decode cX6_gatherDigestCouncils 15 = .ok (.arraylength, 1) := by decide +kernel
theorem dX6_gatherDigestCouncils_16 : decode cX6_gatherDigestCouncils 16 = .ok (.if_icmp .ge 33, 3) := by decide +kernel
theorem dX6_gatherDigestCouncils_19 : decode cX6_gatherDigestCouncils 19 = .ok (.aload_n 0, 1) := by decide +kernel
theorem dX6_gatherDigestCouncils_20 : decode cX6_gatherDigestCouncils 20 = .ok (.getfield 60, 3) := by decide +kernel
theorem dX6_gatherDigestCouncils_23 : decode cX6_gatherDigestCouncils 23 = .ok (.iload_n 1, 1) := by decide +kernel
theorem dX6_gatherDigestCouncils_24 : decode cX6_gatherDigestCouncils 24 = .ok (.aaload, 1) := by decide +kernel
theorem dX6_gatherDigestCouncils_25 : decode cX6_gatherDigestCouncils 25 = .ok (.astore_n 2, 1) := by decide +kernel
theorem dX6_gatherDigestCouncils_26 : decode cX6_gatherDigestCouncils 26 = .ok (.aload_n 2, 1) := by decide +kernel
theorem dX6_gatherDigestCouncils_27 : decode cX6_gatherDigestCouncils 27 = .ok (.ifnull 16, 3) := by decide +kernel
theorem dX6_gatherDigestCouncils_30 : decode cX6_gatherDigestCouncils 30 = .ok (.aload_n 2, 1) := by decide +kernel
theorem dX6_gatherDigestCouncils_31 : decode cX6_gatherDigestCouncils 31 = .ok (.aload_n 0, 1) := by decide +kernel
theorem dX6_gatherDigestCouncils_32 : decode cX6_gatherDigestCouncils 32 = .ok (.getfield 12, 3) := by decide +kernel
theorem dX6_gatherDigestCouncils_35 : decode cX6_gatherDigestCouncils 35 = .ok (.getstatic 56, 3) := by decide +kernel
theorem dX6_gatherDigestCouncils_38 : decode cX6_gatherDigestCouncils 38 = .ok (.iload_n 1, 1) := by decide +kernel
theorem dX6_gatherDigestCouncils_39 : decode cX6_gatherDigestCouncils 39 = .ok (.iaload, 1) := by decide +kernel
theorem dX6_gatherDigestCouncils_40 : decode cX6_gatherDigestCouncils 40 = .ok (.invokevirtual 187, 3) := by decide +kernel
theorem dX6_gatherDigestCouncils_43 : decode cX6_gatherDigestCouncils 43 = .ok (.iinc 1 1, 3) := by decide +kernel
theorem dX6_gatherDigestCouncils_46 : decode cX6_gatherDigestCouncils 46 = .ok (.goto (-44), 3) := by decide +kernel
theorem dX6_gatherDigestCouncils_49 : decode cX6_gatherDigestCouncils 49 = .ok (.return_, 1) := by decide +kernel
theorem dX6_mixedFeasts_0 : decode cX6_mixedFeasts 0 = .ok (.lload_n 1, 1) := by decide +kernel
theorem dX6_mixedFeasts_1 : decode cX6_mixedFeasts 1 = .ok (.lstore_n 3, 1) := by decide +kernel
theorem dX6_mixedFeasts_2 : decode cX6_mixedFeasts 2 = .ok (.iconst 0, 1) := by decide +kernel
theorem dX6_mixedFeasts_3 : decode cX6_mixedFeasts 3 = .ok (.istore 5, 2) := by decide +kernel
theorem dX6_mixedFeasts_5 : decode cX6_mixedFeasts 5 = .ok (.iload 5, 2) := by decide +kernel
theorem dX6_mixedFeasts_7 : decode cX6_mixedFeasts 7 = .ok (.aload_n 0, 1) := by decide +kernel
theorem dX6_mixedFeasts_8 : decode cX6_mixedFeasts 8 = .ok (.getfield 12, 3) := by decide +kernel
theorem dX6_mixedFeasts_11 : decode cX6_mixedFeasts 11 = .ok (.getfield 87, 3) := by decide +kernel
theorem dX6_mixedFeasts_14 : decode cX6_mixedFeasts 14 = .ok (.if_icmp .ge 80, 3) := by decide +kernel
theorem dX6_mixedFeasts_17 : decode cX6_mixedFeasts 17 = .ok (.iconst 0, 1) := by decide +kernel
theorem dX6_mixedFeasts_18 : decode cX6_mixedFeasts 18 = .ok (.istore 6, 2) := by decide +kernel
theorem dX6_mixedFeasts_20 : decode cX6_mixedFeasts 20 = .ok (.iload 6, 2) := by decide +kernel
theorem dX6_mixedFeasts_22 : decode cX6_mixedFeasts 22 = .ok (.iconst 3, 1) := by decide +kernel
theorem dX6_mixedFeasts_23 : decode cX6_mixedFeasts 23 = .ok (.if_icmp .gt 23, 3) := by decide +kernel
theorem dX6_mixedFeasts_26 : decode cX6_mixedFeasts 26 = .ok (.lload_n 3, 1) := by decide +kernel
theorem dX6_mixedFeasts_27 : decode cX6_mixedFeasts 27 = .ok (.aload_n 0, 1) := by decide +kernel
theorem dX6_mixedFeasts_28 : decode cX6_mixedFeasts 28 = .ok (.iload 5, 2) := by decide +kernel
theorem dX6_mixedFeasts_30 : decode cX6_mixedFeasts 30 = .ok (.iload 6, 2) := by decide +kernel
theorem dX6_mixedFeasts_32 : decode cX6_mixedFeasts 32 = .ok (.invokevirtual 181, 3) := by decide +kernel
theorem dX6_mixedFeasts_35 : decode cX6_mixedFeasts 35 = .ok (.i2l, 1) := by decide +kernel
theorem dX6_mixedFeasts_36 : decode cX6_mixedFeasts 36 = .ok (.invokestatic 222, 3) := by decide +kernel
theorem dX6_mixedFeasts_39 : decode cX6_mixedFeasts 39 = .ok (.lstore_n 3, 1) := by decide +kernel
theorem dX6_mixedFeasts_40 : decode cX6_mixedFeasts 40 = .ok (.iinc 6 1, 3) := by decide +kernel
theorem dX6_mixedFeasts_43 : decode cX6_mixedFeasts 43 = .ok (.goto (-23), 3) := by decide +kernel
theorem dX6_mixedFeasts_46 : decode cX6_mixedFeasts 46 = .ok (.iconst 0, 1) := by decide +kernel
theorem dX6_mixedFeasts_47 : decode cX6_mixedFeasts 47 = .ok (.istore 6, 2) := by decide +kernel
theorem dX6_mixedFeasts_49 : decode cX6_mixedFeasts 49 = .ok (.iload 6, 2) := by decide +kernel
theorem dX6_mixedFeasts_51 : decode cX6_mixedFeasts 51 = .ok (.aload_n 0, 1) := by decide +kernel
theorem dX6_mixedFeasts_52 : decode cX6_mixedFeasts 52 = .ok (.getfield 60, 3) := by decide +kernel
theorem dX6_mixedFeasts_55 : decode cX6_mixedFeasts 55 = .ok (.arraylength, 1) := by decide +kernel
theorem dX6_mixedFeasts_56 : decode cX6_mixedFeasts 56 = .ok (.if_icmp .ge 32, 3) := by decide +kernel
theorem dX6_mixedFeasts_59 : decode cX6_mixedFeasts 59 = .ok (.aload_n 0, 1) := by decide +kernel
theorem dX6_mixedFeasts_60 : decode cX6_mixedFeasts 60 = .ok (.getfield 60, 3) := by decide +kernel
theorem dX6_mixedFeasts_63 : decode cX6_mixedFeasts 63 = .ok (.iload 6, 2) := by decide +kernel
theorem dX6_mixedFeasts_65 : decode cX6_mixedFeasts 65 = .ok (.aaload, 1) := by decide +kernel
theorem dX6_mixedFeasts_66 : decode cX6_mixedFeasts 66 = .ok (.astore 7, 2) := by decide +kernel
theorem dX6_mixedFeasts_68 : decode cX6_mixedFeasts 68 = .ok (.aload 7, 2) := by decide +kernel
theorem dX6_mixedFeasts_70 : decode cX6_mixedFeasts 70 = .ok (.ifnull 12, 3) := by decide +kernel
theorem dX6_mixedFeasts_73 : decode cX6_mixedFeasts 73 = .ok (.lload_n 3, 1) := by decide +kernel
theorem dX6_mixedFeasts_74 : decode cX6_mixedFeasts 74 = .ok (.aload 7, 2) := by decide +kernel
theorem dX6_mixedFeasts_76 : decode cX6_mixedFeasts 76 = .ok (.iload 5, 2) := by decide +kernel
theorem dX6_mixedFeasts_78 : decode cX6_mixedFeasts 78 = .ok (.invokestatic 309, 3) := by decide +kernel
theorem dX6_mixedFeasts_81 : decode cX6_mixedFeasts 81 = .ok (.lstore_n 3, 1) := by decide +kernel
theorem dX6_mixedFeasts_82 : decode cX6_mixedFeasts 82 = .ok (.iinc 6 1, 3) := by decide +kernel
theorem dX6_mixedFeasts_85 : decode cX6_mixedFeasts 85 = .ok (.goto (-36), 3) := by decide +kernel
theorem dX6_mixedFeasts_88 : decode cX6_mixedFeasts 88 = .ok (.iinc 5 1, 3) := by decide +kernel
theorem dX6_mixedFeasts_91 : decode cX6_mixedFeasts 91 = .ok (.goto (-86), 3) := by decide +kernel
theorem dX6_mixedFeasts_94 : decode cX6_mixedFeasts 94 = .ok (.lload_n 3, 1) := by decide +kernel
theorem dX6_mixedFeasts_95 : decode cX6_mixedFeasts 95 = .ok (.lreturn, 1) := by decide +kernel
theorem dX6_mixedDays_0 : decode cX6_mixedDays 0 = .ok (.lload_n 0, 1) := by decide +kernel
theorem dX6_mixedDays_1 : decode cX6_mixedDays 1 = .ok (.lstore 4, 2) := by decide +kernel
theorem dX6_mixedDays_3 : decode cX6_mixedDays 3 = .ok (.iconst 0, 1) := by decide +kernel
theorem dX6_mixedDays_4 : decode cX6_mixedDays 4 = .ok (.istore 6, 2) := by decide +kernel
theorem dX6_mixedDays_6 : decode cX6_mixedDays 6 = .ok (.iload 6, 2) := by decide +kernel
theorem dX6_mixedDays_8 : decode cX6_mixedDays 8 = .ok (.iconst 3, 1) := by decide +kernel
theorem dX6_mixedDays_9 : decode cX6_mixedDays 9 = .ok (.if_icmp .ge 51, 3) := by decide +kernel
theorem dX6_mixedDays_12 : decode cX6_mixedDays 12 = .ok (.lload 4, 2) := by decide +kernel
theorem dX6_mixedDays_14 : decode cX6_mixedDays 14 = .ok (.aload_n 2, 1) := by decide +kernel
theorem dX6_mixedDays_15 : decode cX6_mixedDays 15 = .ok (.iload 6, 2) := by decide +kernel
theorem dX6_mixedDays_17 : decode cX6_mixedDays 17 = .ok (.invokevirtual 303, 3) := by decide +kernel
theorem dX6_mixedDays_20 : decode cX6_mixedDays 20 = .ok (.getfield 184, 3) := by decide +kernel
theorem dX6_mixedDays_23 : decode cX6_mixedDays 23 = .ok (.iload_n 3, 1) := by decide +kernel
theorem dX6_mixedDays_24 : decode cX6_mixedDays 24 = .ok (.invokevirtual 105, 3) := by decide +kernel
theorem dX6_mixedDays_27 : decode cX6_mixedDays 27 = .ok (.i2l, 1) := by decide +kernel
theorem dX6_mixedDays_28 : decode cX6_mixedDays 28 = .ok (.invokestatic 222, 3) := by decide +kernel
theorem dX6_mixedDays_31 : decode cX6_mixedDays 31 = .ok (.lstore 4, 2) := by decide +kernel
theorem dX6_mixedDays_33 : decode cX6_mixedDays 33 = .ok (.lload 4, 2) := by decide +kernel
theorem dX6_mixedDays_35 : decode cX6_mixedDays 35 = .ok (.aload_n 2, 1) := by decide +kernel
theorem dX6_mixedDays_36 : decode cX6_mixedDays 36 = .ok (.iload 6, 2) := by decide +kernel
theorem dX6_mixedDays_38 : decode cX6_mixedDays 38 = .ok (.invokevirtual 303, 3) := by decide +kernel
theorem dX6_mixedDays_41 : decode cX6_mixedDays 41 = .ok (.getfield 126, 3) := by decide +kernel
theorem dX6_mixedDays_44 : decode cX6_mixedDays 44 = .ok (.iload_n 3, 1) := by decide +kernel
theorem dX6_mixedDays_45 : decode cX6_mixedDays 45 = .ok (.invokevirtual 105, 3) := by decide +kernel
theorem dX6_mixedDays_48 : decode cX6_mixedDays 48 = .ok (.i2l, 1) := by decide +kernel
theorem dX6_mixedDays_49 : decode cX6_mixedDays 49 = .ok (.invokestatic 222, 3) := by decide +kernel
theorem dX6_mixedDays_52 : decode cX6_mixedDays 52 = .ok (.lstore 4, 2) := by decide +kernel
theorem dX6_mixedDays_54 : decode cX6_mixedDays 54 = .ok (.iinc 6 1, 3) := by decide +kernel
theorem dX6_mixedDays_57 : decode cX6_mixedDays 57 = .ok (.goto (-51), 3) := by decide +kernel
theorem dX6_mixedDays_60 : decode cX6_mixedDays 60 = .ok (.lload 4, 2) := by decide +kernel
theorem dX6_mixedDays_62 : decode cX6_mixedDays 62 = .ok (.aload_n 2, 1) := by decide +kernel
theorem dX6_mixedDays_63 : decode cX6_mixedDays 63 = .ok (.iload_n 3, 1) := by decide +kernel
theorem dX6_mixedDays_64 : decode cX6_mixedDays 64 = .ok (.invokevirtual 191, 3) := by decide +kernel
theorem dX6_mixedDays_67 : decode cX6_mixedDays 67 = .ok (.i2l, 1) := by decide +kernel
theorem dX6_mixedDays_68 : decode cX6_mixedDays 68 = .ok (.invokestatic 222, 3) := by decide +kernel
theorem dX6_mixedDays_71 : decode cX6_mixedDays 71 = .ok (.lreturn, 1) := by decide +kernel
theorem dX6_mixedQuarrels_0 : decode cX6_mixedQuarrels 0 = .ok (.lload_n 1, 1) := by decide +kernel
theorem dX6_mixedQuarrels_1 : decode cX6_mixedQuarrels 1 = .ok (.lstore_n 3, 1) := by decide +kernel
theorem dX6_mixedQuarrels_2 : decode cX6_mixedQuarrels 2 = .ok (.iconst 0, 1) := by decide +kernel
theorem dX6_mixedQuarrels_3 : decode cX6_mixedQuarrels 3 = .ok (.istore 5, 2) := by decide +kernel
theorem dX6_mixedQuarrels_5 : decode cX6_mixedQuarrels 5 = .ok (.iload 5, 2) := by decide +kernel
theorem dX6_mixedQuarrels_7 : decode cX6_mixedQuarrels 7 = .ok (.aload_n 0, 1) := by decide +kernel
theorem dX6_mixedQuarrels_8 : decode cX6_mixedQuarrels 8 = .ok (.getfield 60, 3) := by decide +kernel
theorem dX6_mixedQuarrels_11 : decode cX6_mixedQuarrels 11 = .ok (.arraylength, 1) := by decide +kernel
theorem dX6_mixedQuarrels_12 : decode cX6_mixedQuarrels 12 = .ok (.if_icmp .ge 79, 3) := by decide +kernel
theorem dX6_mixedQuarrels_15 : decode cX6_mixedQuarrels 15 = .ok (.aload_n 0, 1) := by decide +kernel
theorem dX6_mixedQuarrels_16 : decode cX6_mixedQuarrels 16 = .ok (.getfield 60, 3) := by decide +kernel
theorem dX6_mixedQuarrels_19 : decode cX6_mixedQuarrels 19 = .ok (.iload 5, 2) := by decide +kernel
theorem dX6_mixedQuarrels_21 : decode cX6_mixedQuarrels 21 = .ok (.aaload, 1) := by decide +kernel
theorem dX6_mixedQuarrels_22 : decode cX6_mixedQuarrels 22 = .ok (.astore 6, 2) := by decide +kernel
theorem dX6_mixedQuarrels_24 : decode cX6_mixedQuarrels 24 = .ok (.aload 6, 2) := by decide +kernel
theorem dX6_mixedQuarrels_26 : decode cX6_mixedQuarrels 26 = .ok (.ifnull 59, 3) := by decide +kernel
theorem dX6_mixedQuarrels_29 : decode cX6_mixedQuarrels 29 = .ok (.lload_n 3, 1) := by decide +kernel
theorem dX6_mixedQuarrels_30 : decode cX6_mixedQuarrels 30 = .ok (.aload 6, 2) := by decide +kernel
theorem dX6_mixedQuarrels_32 : decode cX6_mixedQuarrels 32 = .ok (.aload_n 0, 1) := by decide +kernel
theorem dX6_mixedQuarrels_33 : decode cX6_mixedQuarrels 33 = .ok (.getfield 12, 3) := by decide +kernel
theorem dX6_mixedQuarrels_36 : decode cX6_mixedQuarrels 36 = .ok (.getfield 87, 3) := by decide +kernel
theorem dX6_mixedQuarrels_39 : decode cX6_mixedQuarrels 39 = .ok (.invokevirtual 194, 3) := by decide +kernel
theorem dX6_mixedQuarrels_42 : decode cX6_mixedQuarrels 42 = .ok (.i2l, 1) := by decide +kernel
theorem dX6_mixedQuarrels_43 : decode cX6_mixedQuarrels 43 = .ok (.invokestatic 222, 3) := by decide +kernel
theorem dX6_mixedQuarrels_46 : decode cX6_mixedQuarrels 46 = .ok (.lstore_n 3, 1) := by decide +kernel
theorem dX6_mixedQuarrels_47 : decode cX6_mixedQuarrels 47 = .ok (.iconst 0, 1) := by decide +kernel
theorem dX6_mixedQuarrels_48 : decode cX6_mixedQuarrels 48 = .ok (.istore 7, 2) := by decide +kernel
theorem dX6_mixedQuarrels_50 : decode cX6_mixedQuarrels 50 = .ok (.iload 7, 2) := by decide +kernel
theorem dX6_mixedQuarrels_52 : decode cX6_mixedQuarrels 52 = .ok (.iconst 3, 1) := by decide +kernel
theorem dX6_mixedQuarrels_53 : decode cX6_mixedQuarrels 53 = .ok (.if_icmp .ge 32, 3) := by decide +kernel
theorem dX6_mixedQuarrels_56 : decode cX6_mixedQuarrels 56 = .ok (.lload_n 3, 1) := by decide +kernel
theorem dX6_mixedQuarrels_57 : decode cX6_mixedQuarrels 57 = .ok (.aload 6, 2) := by decide +kernel
theorem dX6_mixedQuarrels_59 : decode cX6_mixedQuarrels 59 = .ok (.iload 7, 2) := by decide +kernel
theorem dX6_mixedQuarrels_61 : decode cX6_mixedQuarrels 61 = .ok (.invokevirtual 303, 3) := by decide +kernel
theorem dX6_mixedQuarrels_64 : decode cX6_mixedQuarrels 64 = .ok (.aload_n 0, 1) := by decide +kernel
theorem dX6_mixedQuarrels_65 : decode cX6_mixedQuarrels 65 = .ok (.getfield 12, 3) := by decide +kernel
theorem dX6_mixedQuarrels_68 : decode cX6_mixedQuarrels 68 = .ok (.getfield 87, 3) := by decide +kernel
theorem dX6_mixedQuarrels_71 : decode cX6_mixedQuarrels 71 = .ok (.invokevirtual 213, 3) := by decide +kernel
theorem dX6_mixedQuarrels_74 : decode cX6_mixedQuarrels 74 = .ok (.i2l, 1) := by decide +kernel
theorem dX6_mixedQuarrels_75 : decode cX6_mixedQuarrels 75 = .ok (.invokestatic 222, 3) := by decide +kernel
theorem dX6_mixedQuarrels_78 : decode cX6_mixedQuarrels 78 = .ok (.lstore_n 3, 1) := by decide +kernel
theorem dX6_mixedQuarrels_79 : decode cX6_mixedQuarrels 79 = .ok (.iinc 7 1, 3) := by decide +kernel
theorem dX6_mixedQuarrels_82 : decode cX6_mixedQuarrels 82 = .ok (.goto (-32), 3) := by decide +kernel
theorem dX6_mixedQuarrels_85 : decode cX6_mixedQuarrels 85 = .ok (.iinc 5 1, 3) := by decide +kernel
theorem dX6_mixedQuarrels_88 : decode cX6_mixedQuarrels 88 = .ok (.goto (-83), 3) := by decide +kernel
theorem dX6_mixedQuarrels_91 : decode cX6_mixedQuarrels 91 = .ok (.lload_n 3, 1) := by decide +kernel
theorem dX6_mixedQuarrels_92 : decode cX6_mixedQuarrels 92 = .ok (.lreturn, 1) := by decide +kernel
theorem dX6_bitsOfShare_0 : decode cX6_bitsOfShare 0 = .ok (.dload_n 0, 1) := by decide +kernel
theorem dX6_bitsOfShare_1 : decode cX6_bitsOfShare 1 = .ok (.dconst 0, 1) := by decide +kernel
theorem dX6_bitsOfShare_2 : decode cX6_bitsOfShare 2 = .ok (.dcmp .l, 1) := by decide +kernel
theorem dX6_bitsOfShare_3 : decode cX6_bitsOfShare 3 = .ok (.ifCond .gt 5, 3) := by decide +kernel
theorem dX6_bitsOfShare_6 : decode cX6_bitsOfShare 6 = .ok (.lconst 0, 1) := by decide +kernel
theorem dX6_bitsOfShare_7 : decode cX6_bitsOfShare 7 = .ok (.lreturn, 1) := by decide +kernel
theorem dX6_bitsOfShare_8 : decode cX6_bitsOfShare 8 = .ok (.dload_n 0, 1) := by decide +kernel
theorem dX6_bitsOfShare_9 : decode cX6_bitsOfShare 9 = .ok (.dstore_n 2, 1) := by decide +kernel
theorem dX6_bitsOfShare_10 : decode cX6_bitsOfShare 10 = .ok (.ldc2_w 313, 3) := by decide +kernel
theorem dX6_bitsOfShare_13 : decode cX6_bitsOfShare 13 = .ok (.lstore 4, 2) := by decide +kernel
theorem dX6_bitsOfShare_15 : decode cX6_bitsOfShare 15 = .ok (.iconst 0, 1) := by decide +kernel
theorem dX6_bitsOfShare_16 : decode cX6_bitsOfShare 16 = .ok (.istore 6, 2) := by decide +kernel
theorem dX6_bitsOfShare_18 : decode cX6_bitsOfShare 18 = .ok (.iload 6, 2) := by decide +kernel
theorem dX6_bitsOfShare_20 : decode cX6_bitsOfShare 20 = .ok (.sipush 1022, 3) := by decide +kernel
theorem dX6_bitsOfShare_23 : decode cX6_bitsOfShare 23 = .ok (.if_icmp .ge 27, 3) := by decide +kernel
theorem dX6_bitsOfShare_26 : decode cX6_bitsOfShare 26 = .ok (.dload_n 2, 1) := by decide +kernel
theorem dX6_bitsOfShare_27 : decode cX6_bitsOfShare 27 = .ok (.dconst 1, 1) := by decide +kernel
theorem dX6_bitsOfShare_28 : decode cX6_bitsOfShare 28 = .ok (.dcmp .g, 1) := by decide +kernel
theorem dX6_bitsOfShare_29 : decode cX6_bitsOfShare 29 = .ok (.ifCond .ge 21, 3) := by decide +kernel
theorem dX6_bitsOfShare_32 : decode cX6_bitsOfShare 32 = .ok (.dload_n 2, 1) := by decide +kernel
theorem dX6_bitsOfShare_33 : decode cX6_bitsOfShare 33 = .ok (.ldc2_w 315, 3) := by decide +kernel
theorem dX6_bitsOfShare_36 : decode cX6_bitsOfShare 36 = .ok (.dmul, 1) := by decide +kernel
theorem dX6_bitsOfShare_37 : decode cX6_bitsOfShare 37 = .ok (.dstore_n 2, 1) := by decide +kernel
theorem dX6_bitsOfShare_38 : decode cX6_bitsOfShare 38 = .ok (.lload 4, 2) := by decide +kernel
theorem dX6_bitsOfShare_40 : decode cX6_bitsOfShare 40 = .ok (.lconst 1, 1) := by decide +kernel
theorem dX6_bitsOfShare_41 : decode cX6_bitsOfShare 41 = .ok (.lsub, 1) := by decide +kernel
theorem dX6_bitsOfShare_42 : decode cX6_bitsOfShare 42 = .ok (.lstore 4, 2) := by decide +kernel
theorem dX6_bitsOfShare_44 : decode cX6_bitsOfShare 44 = .ok (.iinc 6 1, 3) := by decide +kernel
theorem dX6_bitsOfShare_47 : decode cX6_bitsOfShare 47 = .ok (.goto (-29), 3) := by decide +kernel
theorem dX6_bitsOfShare_50 : decode cX6_bitsOfShare 50 = .ok (.lload 4, 2) := by decide +kernel
theorem dX6_bitsOfShare_52 : decode cX6_bitsOfShare 52 = .ok (.bipush 52, 2) := by decide +kernel
theorem dX6_bitsOfShare_54 : decode cX6_bitsOfShare 54 = .ok (.lshl, 1) := by decide +kernel
theorem dX6_bitsOfShare_55 : decode cX6_bitsOfShare 55 = .ok (.dload_n 2, 1) := by decide +kernel
theorem dX6_bitsOfShare_56 : decode cX6_bitsOfShare 56 = .ok (.dconst 1, 1) := by decide +kernel
theorem dX6_bitsOfShare_57 : decode cX6_bitsOfShare 57 = .ok (.dsub, 1) := by decide +kernel
theorem dX6_bitsOfShare_58 : decode cX6_bitsOfShare 58 = .ok (.ldc2_w 317, 3) := by decide +kernel
theorem dX6_bitsOfShare_61 : decode cX6_bitsOfShare 61 = .ok (.dmul, 1) := by decide +kernel
theorem dX6_bitsOfShare_62 : decode cX6_bitsOfShare 62 = .ok (.d2l, 1) := by decide +kernel
theorem dX6_bitsOfShare_63 : decode cX6_bitsOfShare 63 = .ok (.ladd, 1) := by decide +kernel
theorem dX6_bitsOfShare_64 : decode cX6_bitsOfShare 64 = .ok (.lreturn, 1) := by decide +kernel
theorem dX7_init_0 : decode cX7_init 0 = .ok (.aload_n 0, 1) := by decide +kernel
theorem dX7_init_1 : decode cX7_init 1 = .ok (.invokespecial 1, 3) := by decide +kernel
theorem dX7_init_4 : decode cX7_init 4 = .ok (.aload_n 0, 1) := by decide +kernel
theorem dX7_init_5 : decode cX7_init 5 = .ok (.bipush 111, 2) := by decide +kernel
theorem dX7_init_7 : decode cX7_init 7 = .ok (.newarray .int, 2) := by decide +kernel
theorem dX7_init_9 : decode cX7_init 9 = .ok (.putfield 7, 3) := by decide +kernel
theorem dX7_init_12 : decode cX7_init 12 = .ok (.aload_n 0, 1) := by decide +kernel
theorem dX7_init_13 : decode cX7_init 13 = .ok (.sipush 666, 3) := by decide +kernel
theorem dX7_init_16 : decode cX7_init 16 = .ok (.newarray .int, 2) := by decide +kernel
theorem dX7_init_18 : decode cX7_init 18 = .ok (.putfield 13, 3) := by decide +kernel
theorem dX7_init_21 : decode cX7_init 21 = .ok (.aload_n 0, 1) := by decide +kernel
theorem dX7_init_22 : decode cX7_init 22 = .ok (.bipush 60, 2) := by decide +kernel
theorem dX7_init_24 : decode cX7_init 24 = .ok (.newarray .int, 2) := by decide +kernel
theorem dX7_init_26 : decode cX7_init 26 = .ok (.putfield 16, 3) := by decide +kernel
theorem dX7_init_29 : decode cX7_init 29 = .ok (.aload_n 0, 1) := by decide +kernel
theorem dX7_init_30 : decode cX7_init 30 = .ok (.bipush 10, 2) := by decide +kernel
theorem dX7_init_32 : decode cX7_init 32 = .ok (.newarray .int, 2) := by decide +kernel
theorem dX7_init_34 : decode cX7_init 34 = .ok (.putfield 19, 3) := by decide +kernel
theorem dX7_init_37 : decode cX7_init 37 = .ok (.aload_n 0, 1) := by decide +kernel
theorem dX7_init_38 : decode cX7_init 38 = .ok (.bipush 10, 2) := by decide +kernel
theorem dX7_init_40 : decode cX7_init 40 = .ok (.newarray .int, 2) := by decide +kernel
theorem dX7_init_42 : decode cX7_init 42 = .ok (.putfield 22, 3) := by decide +kernel
theorem dX7_init_45 : decode cX7_init 45 = .ok (.aload_n 0, 1) := by decide +kernel
theorem dX7_init_46 : decode cX7_init 46 = .ok (.sipush 366, 3) := by decide +kernel
theorem dX7_init_49 : decode cX7_init 49 = .ok (.newarray .boolean, 2) := by decide +kernel
theorem dX7_init_51 : decode cX7_init 51 = .ok (.putfield 25, 3) := by decide +kernel
theorem dX7_init_54 : decode cX7_init 54 = .ok (.aload_n 0, 1) := by decide +kernel
theorem dX7_init_55 : decode cX7_init 55 = .ok (.bipush 30, 2) := by decide +kernel
theorem dX7_init_57 : decode cX7_init 57 = .ok (.newarray .int, 2) := by decide +kernel
theorem dX7_init_59 : decode cX7_init 59 = .ok (.putfield 29, 3) := by decide +kernel
theorem dX7_init_62 : decode cX7_init 62 = .ok (.aload_n 0, 1) := by decide +kernel
theorem dX7_init_63 : decode cX7_init 63 = .ok (.iconst 4, 1) := by decide +kernel
theorem dX7_init_64 : decode cX7_init 64 = .ok (.newarray .int, 2) := by decide +kernel
theorem dX7_init_66 : decode cX7_init 66 = .ok (.putfield 32, 3) := by decide +kernel
theorem dX7_init_69 : decode cX7_init 69 = .ok (.aload_n 0, 1) := by decide +kernel
theorem dX7_init_70 : decode cX7_init 70 = .ok (.bipush 10, 2) := by decide +kernel
theorem dX7_init_72 : decode cX7_init 72 = .ok (.newarray .int, 2) := by decide +kernel
theorem dX7_init_74 : decode cX7_init 74 = .ok (.putfield 35, 3) := by decide +kernel
theorem dX7_init_77 : decode cX7_init 77 = .ok (.aload_n 0, 1) := by decide +kernel
theorem dX7_init_78 : decode cX7_init 78 = .ok (.getfield 7, 3) := by decide +kernel
theorem dX7_init_81 : decode cX7_init 81 = .ok (.bipush 44, 2) := by decide +kernel
theorem dX7_init_83 : decode cX7_init 83 = .ok (.sipush 300, 3) := by decide +kernel
theorem dX7_init_86 : decode cX7_init 86 = .ok (.iastore, 1) := by decide +kernel
theorem dX7_init_87 : decode cX7_init 87 = .ok (.return_, 1) := by decide +kernel
theorem dX7_thrown_0 : decode cX7_thrown 0 = .ok (.aload_n 0, 1) := by decide +kernel
theorem dX7_thrown_1 : decode cX7_thrown 1 = .ok (.getfield 38, 3) := by decide +kernel
theorem dX7_thrown_4 : decode cX7_thrown 4 = .ok (.ireturn, 1) := by decide +kernel
theorem dX7_in_0 : decode cX7_in 0 = .ok (.iload_n 0, 1) := by decide +kernel
theorem dX7_in_1 : decode cX7_in 1 = .ok (.iload_n 1, 1) := by decide +kernel
theorem dX7_in_2 : decode cX7_in 2 = .ok (.if_icmp .lt 12, 3) := by decide +kernel
theorem dX7_in_5 : decode cX7_in 5 = .ok (.iload_n 0, 1) := by decide +kernel
theorem dX7_in_6 : decode cX7_in 6 = .ok (.iload_n 2, 1) := by decide +kernel
theorem dX7_in_7 : decode cX7_in 7 = .ok (.if_icmp .gt 7, 3) := by decide +kernel
theorem dX7_in_10 : decode cX7_in 10 = .ok (.iconst 1, 1) := by decide +kernel
theorem dX7_in_11 : decode cX7_in 11 = .ok (.goto 4, 3) := by decide +kernel
theorem dX7_in_14 : decode cX7_in 14 = .ok (.iconst 0, 1) := by decide +kernel
theorem dX7_in_15 : decode cX7_in 15 = .ok (.ireturn, 1) := by decide +kernel
theorem dX7_holds_0 : decode cX7_holds 0 = .ok (.aload_n 0, 1) := by decide +kernel
theorem dX7_holds_1 : decode cX7_holds 1 = .ok (.iload_n 1, 1) := by decide +kernel
theorem dX7_holds_2 : decode cX7_holds 2 = .ok (.putfield 38, 3) := by decide +kernel
theorem dX7_holds_5 : decode cX7_holds 5 = .ok (.iload_n 1, 1) := by decide +kernel
theorem dX7_holds_6 : decode cX7_holds 6 = .ok (.ifCond .ne 7, 3) := by decide +kernel
theorem dX7_holds_9 : decode cX7_holds 9 = .ok (.iconst 1, 1) := by decide +kernel
theorem dX7_holds_10 : decode cX7_holds 10 = .ok (.goto 4, 3) := by decide +kernel
theorem dX7_holds_13 : decode cX7_holds 13 = .ok (.iconst 0, 1) := by decide +kernel
theorem dX7_holds_14 : decode cX7_holds 14 = .ok (.ireturn, 1) := by decide +kernel
theorem dX7_of_0 : decode cX7_of 0 = .ok (.iconst 1, 1) := by decide +kernel
theorem dX7_of_1 : decode cX7_of 1 = .ok (.iconst 4, 1) := by decide +kernel
theorem dX7_of_2 : decode cX7_of 2 = .ok (.iload_n 0, 1) := by decide +kernel
theorem dX7_of_3 : decode cX7_of 3 = .ok (.imul, 1) := by decide +kernel
theorem dX7_of_4 : decode cX7_of 4 = .ok (.iadd, 1) := by decide +kernel
theorem dX7_of_5 : decode cX7_of 5 = .ok (.iload_n 1, 1) := by decide +kernel
theorem dX7_of_6 : decode cX7_of 6 = .ok (.iadd, 1) := by decide +kernel
theorem dX7_of_7 : decode cX7_of 7 = .ok (.ireturn, 1) := by decide +kernel
theorem dX7_ofStick_0 : decode cX7_ofStick 0 = .ok (.bipush 46, 2) := by decide +kernel
theorem dX7_ofStick_2 : decode cX7_ofStick 2 = .ok (.bipush 13, 2) := by decide +kernel
theorem dX7_ofStick_4 : decode cX7_ofStick 4 = .ok (.iload_n 0, 1) := by decide +kernel
theorem dX7_ofStick_5 : decode cX7_ofStick 5 = .ok (.imul, 1) := by decide +kernel
theorem dX7_ofStick_6 : decode cX7_ofStick 6 = .ok (.iadd, 1) := by decide +kernel
theorem dX7_ofStick_7 : decode cX7_ofStick 7 = .ok (.iload_n 1, 1) := by decide +kernel
theorem dX7_ofStick_8 : decode cX7_ofStick 8 = .ok (.iadd, 1) := by decide +kernel
theorem dX7_ofStick_9 : decode cX7_ofStick 9 = .ok (.ireturn, 1) := by decide +kernel
theorem dX7_isFeast_0 : decode cX7_isFeast 0 = .ok (.iload_n 1, 1) := by decide +kernel
theorem dX7_isFeast_1 : decode cX7_isFeast 1 = .ok (.iconst 0, 1) := by decide +kernel
theorem dX7_isFeast_2 : decode cX7_isFeast 2 = .ok (.aload_n 0, 1) := by decide +kernel
theorem dX7_isFeast_3 : decode cX7_isFeast 3 = .ok (.getfield 7, 3) := by decide +kernel
theorem dX7_isFeast_6 : decode cX7_isFeast 6 = .ok (.iconst 0, 1) := by decide +kernel
theorem dX7_isFeast_7 : decode cX7_isFeast 7 = .ok (.iaload, 1) := by decide +kernel
theorem dX7_isFeast_8 : decode cX7_isFeast 8 = .ok (.iconst 1, 1) := by decide +kernel
theorem dX7_isFeast_9 : decode cX7_isFeast 9 = .ok (.isub, 1) := by decide +kernel
theorem dX7_isFeast_10 : decode cX7_isFeast 10 = .ok (.invokestatic 42, 3) := by decide +kernel
theorem dX7_isFeast_13 : decode cX7_isFeast 13 = .ok (.ireturn, 1) := by decide +kernel
theorem dX7_isYear_0 : decode cX7_isYear 0 = .ok (.iload_n 0, 1) := by decide +kernel
theorem dX7_isYear_1 : decode cX7_isYear 1 = .ok (.iconst 0, 1) := by decide +kernel
theorem dX7_isYear_2 : decode cX7_isYear 2 = .ok (.sipush 999, 3) := by decide +kernel
theorem dX7_isYear_5 : decode cX7_isYear 5 = .ok (.invokestatic 42, 3) := by decide +kernel
theorem dX7_isYear_8 : decode cX7_isYear 8 = .ok (.ireturn, 1) := by decide +kernel
theorem dX7_isCarver_0 : decode cX7_isCarver 0 = .ok (.iload_n 0, 1) := by decide +kernel
theorem dX7_isCarver_1 : decode cX7_isCarver 1 = .ok (.iconst 0, 1) := by decide +kernel
theorem dX7_isCarver_2 : decode cX7_isCarver 2 = .ok (.iconst 2, 1) := by decide +kernel
theorem dX7_isCarver_3 : decode cX7_isCarver 3 = .ok (.invokestatic 42, 3) := by decide +kernel
theorem dX7_isCarver_6 : decode cX7_isCarver 6 = .ok (.ireturn, 1) := by decide +kernel
theorem dX7_save_0 : decode cX7_save 0 = .ok (.aload_n 0, 1) := by decide +kernel
theorem dX7_save_1 : decode cX7_save 1 = .ok (.getfield 46, 3) := by decide +kernel
theorem dX7_save_4 : decode cX7_save 4 = .ok (.bipush 6, 2) := by decide +kernel
theorem dX7_save_6 : decode cX7_save 6 = .ok (.if_icmp .ne 43, 3) := by decide +kernel
theorem dX7_save_9 : decode cX7_save 9 = .ok (.iconst 0, 1) := by decide +kernel
theorem dX7_save_10 : decode cX7_save 10 = .ok (.istore_n 1, 1) := by decide +kernel
theorem dX7_save_11 : decode cX7_save 11 = .ok (.iload_n 1, 1) := by decide +kernel
theorem dX7_save_12 : decode cX7_save 12 = .ok (.sipush 555, 3) := by decide +kernel
theorem dX7_save_15 : decode cX7_save 15 = .ok (.if_icmp .ge 24, 3) := by decide +kernel
theorem dX7_save_18 : decode cX7_save 18 = .ok (.aload_n 0, 1) := by decide +kernel
theorem dX7_save_19 : decode cX7_save 19 = .ok (.getfield 13, 3) := by decide +kernel
theorem dX7_save_22 : decode cX7_save 22 = .ok (.iload_n 1, 1) := by decide +kernel
theorem dX7_save_23 : decode cX7_save 23 = .ok (.aload_n 0, 1) := by decide +kernel
theorem dX7_save_24 : decode cX7_save 24 = .ok (.getfield 13, 3) := by decide +kernel
theorem dX7_save_27 : decode cX7_save 27 = .ok (.bipush 111, 2) := by decide +kernel
theorem dX7_save_29 : decode cX7_save 29 = .ok (.iload_n 1, 1) := by decide +kernel
theorem dX7_save_30 : decode cX7_save 30 = .ok (.iadd, 1) := by decide +kernel
theorem dX7_save_31 : decode cX7_save 31 = .ok (.iaload, 1) := by decide +kernel
theorem dX7_save_32 : decode cX7_save 32 = .ok (.iastore, 1) := by decide +kernel
theorem dX7_save_33 : decode cX7_save 33 = .ok (.iinc 1 1, 3) := by decide +kernel
theorem dX7_save_36 : decode cX7_save 36 = .ok (.goto (-25), 3) := by decide +kernel
theorem dX7_save_39 : decode cX7_save 39 = .ok (.aload_n 0, 1) := by decide +kernel
theorem dX7_save_40 : decode cX7_save 40 = .ok (.dup, 1) := by decide +kernel
theorem dX7_save_41 : decode cX7_save 41 = .ok (.getfield 46, 3) := by decide +kernel
theorem dX7_save_44 : decode cX7_save 44 = .ok (.iconst 1, 1) := by decide +kernel
theorem dX7_save_45 : decode cX7_save 45 = .ok (.isub, 1) := by decide +kernel
theorem dX7_save_46 : decode cX7_save 46 = .ok (.putfield 46, 3) := by decide +kernel
theorem dX7_save_49 : decode cX7_save 49 = .ok (.iconst 0, 1) := by decide +kernel
theorem dX7_save_50 : decode cX7_save 50 = .ok (.istore_n 1, 1) := by decide +kernel
theorem dX7_save_51 : decode cX7_save 51 = .ok (.iload_n 1, 1) := by decide +kernel
theorem dX7_save_52 : decode cX7_save 52 = .ok (.bipush 111, 2) := by decide +kernel
theorem dX7_save_54 : decode cX7_save 54 = .ok (.if_icmp .ge 29, 3) := by decide +kernel
theorem dX7_save_57 : decode cX7_save 57 = .ok (.aload_n 0, 1) := by decide +kernel
theorem dX7_save_58 : decode cX7_save 58 = .ok (.getfield 13, 3) := by decide +kernel
theorem dX7_save_61 : decode cX7_save 61 = .ok (.bipush 111, 2) := by decide +kernel
theorem dX7_save_63 : decode cX7_save 63 = .ok (.aload_n 0, 1) := by decide +kernel
theorem dX7_save_64 : decode cX7_save 64 = .ok (.getfield 46, 3) := by decide +kernel
theorem dX7_save_67 : decode cX7_save 67 = .ok (.imul, 1) := by decide +kernel
theorem dX7_save_68 : decode cX7_save 68 = .ok (.iload_n 1, 1) := by decide +kernel
theorem dX7_save_69 : decode cX7_save 69 = .ok (.iadd, 1) := by decide +kernel
theorem dX7_save_70 : decode cX7_save 70 = .ok (.aload_n 0, 1) := by decide +kernel
theorem dX7_save_71 : decode cX7_save 71 = .ok (.getfield 7, 3) := by decide +kernel
theorem dX7_save_74 : decode cX7_save 74 = .ok (.iload_n 1, 1) := by decide +kernel
theorem dX7_save_75 : decode cX7_save 75 = .ok (.iaload, 1) := by decide +kernel
theorem dX7_save_76 : decode cX7_save 76 = .ok (.iastore, 1) := by decide +kernel
theorem dX7_save_77 : decode cX7_save 77 = .ok (.iinc 1 1, 3) := by decide +kernel
theorem dX7_save_80 : decode cX7_save 80 = .ok (.goto (-29), 3) := by decide +kernel
theorem dX7_save_83 : decode cX7_save 83 = .ok (.aload_n 0, 1) := by decide +kernel
theorem dX7_save_84 : decode cX7_save 84 = .ok (.dup, 1) := by decide +kernel
theorem dX7_save_85 : decode cX7_save 85 = .ok (.getfield 46, 3) := by decide +kernel
theorem dX7_save_88 : decode cX7_save 88 = .ok (.iconst 1, 1) := by decide +kernel
theorem dX7_save_89 : decode cX7_save 89 = .ok (.iadd, 1) := by decide +kernel
theorem dX7_save_90 : decode cX7_save 90 = .ok (.putfield 46, 3) := by decide +kernel
theorem dX7_save_93 : decode cX7_save 93 = .ok (.return_, 1) := by decide +kernel
theorem dX7_daysOf_0 : decode cX7_daysOf 0 = .ok (.iload_n 0, 1) := by decide +kernel
theorem dX7_daysOf_1 : decode cX7_daysOf 1 = .ok (.iconst 4, 1) := by decide +kernel
theorem dX7_daysOf_2 : decode cX7_daysOf 2 = .ok (.irem, 1) := by decide +kernel
theorem dX7_daysOf_3 : decode cX7_daysOf 3 = .ok (.ifCond .ne 9, 3) := by decide +kernel
theorem dX7_daysOf_6 : decode cX7_daysOf 6 = .ok (.sipush 366, 3) := by decide +kernel
theorem dX7_daysOf_9 : decode cX7_daysOf 9 = .ok (.goto 6, 3) := by decide +kernel
theorem dX7_daysOf_12 : decode cX7_daysOf 12 = .ok (.sipush 365, 3) := by decide +kernel
theorem dX7_daysOf_15 : decode cX7_daysOf 15 = .ok (.ireturn, 1) := by decide +kernel
theorem dX7_weekday_0 : decode cX7_weekday 0 = .ok (.sipush 365, 3) := by decide +kernel
theorem dX7_weekday_3 : decode cX7_weekday 3 = .ok (.iload_n 0, 1) := by decide +kernel
theorem dX7_weekday_4 : decode cX7_weekday 4 = .ok (.imul, 1) := by decide +kernel
theorem dX7_weekday_5 : decode cX7_weekday 5 = .ok (.iload_n 0, 1) := by decide +kernel
theorem dX7_weekday_6 : decode cX7_weekday 6 = .ok (.iconst 3, 1) := by decide +kernel
theorem dX7_weekday_7 : decode cX7_weekday 7 = .ok (.iadd, 1) := by decide +kernel
theorem dX7_weekday_8 : decode cX7_weekday 8 = .ok (.iconst 4, 1) := by decide +kernel
theorem dX7_weekday_9 : decode cX7_weekday 9 = .ok (.idiv, 1) := by decide +kernel
theorem dX7_weekday_10 : decode cX7_weekday 10 = .ok (.iadd, 1) := by decide +kernel
theorem dX7_weekday_11 : decode cX7_weekday 11 = .ok (.iload_n 1, 1) := by decide +kernel
theorem dX7_weekday_12 : decode cX7_weekday 12 = .ok (.iadd, 1) := by decide +kernel
theorem dX7_weekday_13 : decode cX7_weekday 13 = .ok (.bipush 7, 2) := by decide +kernel
theorem dX7_weekday_15 : decode cX7_weekday 15 = .ok (.irem, 1) := by decide +kernel
theorem dX7_weekday_16 : decode cX7_weekday 16 = .ok (.ireturn, 1) := by decide +kernel
theorem dX7_age_0 : decode cX7_age 0 = .ok (.bipush 11, 2) := by decide +kernel
theorem dX7_age_2 : decode cX7_age 2 = .ok (.iload_n 1, 1) := by decide +kernel
theorem dX7_age_3 : decode cX7_age 3 = .ok (.bipush 19, 2) := by decide +kernel
theorem dX7_age_5 : decode cX7_age 5 = .ok (.irem, 1) := by decide +kernel
theorem dX7_age_6 : decode cX7_age 6 = .ok (.imul, 1) := by decide +kernel
theorem dX7_age_7 : decode cX7_age 7 = .ok (.iload_n 1, 1) := by decide +kernel
theorem dX7_age_8 : decode cX7_age 8 = .ok (.aload_n 0, 1) := by decide +kernel
theorem dX7_age_9 : decode cX7_age 9 = .ok (.getfield 7, 3) := by decide +kernel
theorem dX7_age_12 : decode cX7_age 12 = .ok (.bipush 44, 2) := by decide +kernel
theorem dX7_age_14 : decode cX7_age 14 = .ok (.iaload, 1) := by decide +kernel
theorem dX7_age_15 : decode cX7_age 15 = .ok (.idiv, 1) := by decide +kernel
theorem dX7_age_16 : decode cX7_age 16 = .ok (.iadd, 1) := by decide +kernel
theorem dX7_age_17 : decode cX7_age 17 = .ok (.iload_n 3, 1) := by decide +kernel
theorem dX7_age_18 : decode cX7_age 18 = .ok (.iadd, 1) := by decide +kernel
theorem dX7_age_19 : decode cX7_age 19 = .ok (.iconst 5, 1) := by decide +kernel
theorem dX7_age_20 : decode cX7_age 20 = .ok (.iadd, 1) := by decide +kernel
theorem dX7_age_21 : decode cX7_age 21 = .ok (.iload_n 2, 1) := by decide +kernel
theorem dX7_age_22 : decode cX7_age 22 = .ok (.iadd, 1) := by decide +kernel
theorem dX7_age_23 : decode cX7_age 23 = .ok (.iload_n 2, 1) := by decide +kernel
theorem dX7_age_24 : decode cX7_age 24 = .ok (.bipush 59, 2) := by decide +kernel
theorem dX7_age_26 : decode cX7_age 26 = .ok (.idiv, 1) := by decide +kernel
theorem dX7_age_27 : decode cX7_age 27 = .ok (.iadd, 1) := by decide +kernel
theorem dX7_age_28 : decode cX7_age 28 = .ok (.bipush 30, 2) := by decide +kernel
theorem dX7_age_30 : decode cX7_age 30 = .ok (.irem, 1) := by decide +kernel
theorem dX7_age_31 : decode cX7_age 31 = .ok (.ireturn, 1) := by decide +kernel
theorem dX7_firstWeekday_0 : decode cX7_firstWeekday 0 = .ok (.iload_n 1, 1) := by decide +kernel
theorem dX7_firstWeekday_1 : decode cX7_firstWeekday 1 = .ok (.istore_n 3, 1) := by decide +kernel
theorem dX7_firstWeekday_2 : decode cX7_firstWeekday 2 = .ok (.iload_n 3, 1) := by decide +kernel
theorem dX7_firstWeekday_3 : decode cX7_firstWeekday 3 = .ok (.iload_n 0, 1) := by decide +kernel
theorem dX7_firstWeekday_4 : decode cX7_firstWeekday 4 = .ok (.invokestatic 49, 3) := by decide +kernel
theorem dX7_firstWeekday_7 : decode cX7_firstWeekday 7 = .ok (.if_icmp .ge 20, 3) := by decide +kernel
theorem dX7_firstWeekday_10 : decode cX7_firstWeekday 10 = .ok (.iload_n 0, 1) := by decide +kernel
theorem dX7_firstWeekday_11 : decode cX7_firstWeekday 11 = .ok (.iload_n 3, 1) := by decide +kernel
theorem dX7_firstWeekday_12 : decode cX7_firstWeekday 12 = .ok (.invokestatic 53, 3) := by decide +kernel
theorem dX7_firstWeekday_15 : decode cX7_firstWeekday 15 = .ok (.iload_n 2, 1) := by decide +kernel
theorem dX7_firstWeekday_16 : decode cX7_firstWeekday 16 = .ok (.if_icmp .ne 5, 3) := by decide +kernel
theorem dX7_firstWeekday_19 : decode cX7_firstWeekday 19 = .ok (.iload_n 3, 1) := by decide +kernel
theorem dX7_firstWeekday_20 : decode cX7_firstWeekday 20 = .ok (.ireturn, 1) := by decide +kernel
theorem dX7_firstWeekday_21 : decode cX7_firstWeekday 21 = .ok (.iinc 3 1, 3) := by decide +kernel
theorem dX7_firstWeekday_24 : decode cX7_firstWeekday 24 = .ok (.goto (-22), 3) := by decide +kernel
theorem dX7_firstWeekday_27 : decode cX7_firstWeekday 27 = .ok (.iconst (-1), 1) := by decide +kernel
theorem dX7_firstWeekday_28 : decode cX7_firstWeekday 28 = .ok (.ireturn, 1) := by decide +kernel
theorem dX7_firstFull_0 : decode cX7_firstFull 0 = .ok (.iload_n 2, 1) := by decide +kernel
theorem dX7_firstFull_1 : decode cX7_firstFull 1 = .ok (.istore 4, 2) := by decide +kernel
theorem dX7_firstFull_3 : decode cX7_firstFull 3 = .ok (.iload 4, 2) := by decide +kernel
theorem dX7_firstFull_5 : decode cX7_firstFull 5 = .ok (.iload_n 1, 1) := by decide +kernel
theorem dX7_firstFull_6 : decode cX7_firstFull 6 = .ok (.invokestatic 49, 3) := by decide +kernel
theorem dX7_firstFull_9 : decode cX7_firstFull 9 = .ok (.if_icmp .ge 25, 3) := by decide +kernel
theorem dX7_firstFull_12 : decode cX7_firstFull 12 = .ok (.aload_n 0, 1) := by decide +kernel
theorem dX7_firstFull_13 : decode cX7_firstFull 13 = .ok (.iload_n 1, 1) := by decide +kernel
theorem dX7_firstFull_14 : decode cX7_firstFull 14 = .ok (.iload 4, 2) := by decide +kernel
theorem dX7_firstFull_16 : decode cX7_firstFull 16 = .ok (.iload_n 3, 1) := by decide +kernel
theorem dX7_firstFull_17 : decode cX7_firstFull 17 = .ok (.invokevirtual 57, 3) := by decide +kernel
theorem dX7_firstFull_20 : decode cX7_firstFull 20 = .ok (.bipush 14, 2) := by decide +kernel
theorem dX7_firstFull_22 : decode cX7_firstFull 22 = .ok (.if_icmp .ne 6, 3) := by decide +kernel
theorem dX7_firstFull_25 : decode cX7_firstFull 25 = .ok (.iload 4, 2) := by decide +kernel
theorem dX7_firstFull_27 : decode cX7_firstFull 27 = .ok (.ireturn, 1) := by decide +kernel
theorem dX7_firstFull_28 : decode cX7_firstFull 28 = .ok (.iinc 4 1, 3) := by decide +kernel
theorem dX7_firstFull_31 : decode cX7_firstFull 31 = .ok (.goto (-28), 3) := by decide +kernel
theorem dX7_firstFull_34 : decode cX7_firstFull 34 = .ok (.iconst (-1), 1) := by decide +kernel
theorem dX7_firstFull_35 : decode cX7_firstFull 35 = .ok (.ireturn, 1) := by decide +kernel
theorem dX7_findProper_0 : decode cX7_findProper 0 = .ok (.iconst 0, 1) := by decide +kernel
theorem dX7_findProper_1 : decode cX7_findProper 1 = .ok (.istore_n 3, 1) := by decide +kernel
theorem dX7_findProper_2 : decode cX7_findProper 2 = .ok (.iload_n 3, 1) := by decide +kernel
theorem dX7_findProper_3 : decode cX7_findProper 3 = .ok (.aload_n 0, 1) := by decide +kernel
theorem dX7_findProper_4 : decode cX7_findProper 4 = .ok (.getfield 7, 3) := by decide +kernel
theorem dX7_findProper_7 : decode cX7_findProper 7 = .ok (.iconst 0, 1) := by decide +kernel
theorem dX7_findProper_8 : decode cX7_findProper 8 = .ok (.iaload, 1) := by decide +kernel
theorem dX7_findProper_9 : decode cX7_findProper 9 = .ok (.if_icmp .ge 184, 3) := by decide +kernel
theorem dX7_findProper_12 : decode cX7_findProper 12 = .ok (.aload_n 0, 1) := by decide +kernel
theorem dX7_findProper_13 : decode cX7_findProper 13 = .ok (.getfield 7, 3) := by decide +kernel
theorem dX7_findProper_16 : decode cX7_findProper 16 = .ok (.iload_n 3, 1) := by decide +kernel
theorem dX7_findProper_17 : decode cX7_findProper 17 = .ok (.iconst 2, 1) := by decide +kernel
theorem dX7_findProper_18 : decode cX7_findProper 18 = .ok (.invokestatic 61, 3) := by decide +kernel
theorem dX7_findProper_21 : decode cX7_findProper 21 = .ok (.iaload, 1) := by decide +kernel
theorem dX7_findProper_22 : decode cX7_findProper 22 = .ok (.istore 4, 2) := by decide +kernel
theorem dX7_findProper_24 : decode cX7_findProper 24 = .ok (.aload_n 0, 1) := by decide +kernel
theorem dX7_findProper_25 : decode cX7_findProper 25 = .ok (.getfield 7, 3) := by decide +kernel
theorem dX7_findProper_28 : decode cX7_findProper 28 = .ok (.iload_n 3, 1) := by decide +kernel
theorem dX7_findProper_29 : decode cX7_findProper 29 = .ok (.iconst 3, 1) := by decide +kernel
theorem dX7_findProper_30 : decode cX7_findProper 30 = .ok (.invokestatic 61, 3) := by decide +kernel
theorem dX7_findProper_33 : decode cX7_findProper 33 = .ok (.iaload, 1) := by decide +kernel
theorem dX7_findProper_34 : decode cX7_findProper 34 = .ok (.istore 5, 2) := by decide +kernel
theorem dX7_findProper_36 : decode cX7_findProper 36 = .ok (.aload_n 0, 1) := by decide +kernel
theorem dX7_findProper_37 : decode cX7_findProper 37 = .ok (.getfield 7, 3) := by decide +kernel
theorem dX7_findProper_40 : decode cX7_findProper 40 = .ok (.iload_n 3, 1) := by decide +kernel
theorem dX7_findProper_41 : decode cX7_findProper 41 = .ok (.iconst 0, 1) := by decide +kernel
theorem dX7_findProper_42 : decode cX7_findProper 42 = .ok (.invokestatic 61, 3) := by decide +kernel
theorem dX7_findProper_45 : decode cX7_findProper 45 = .ok (.iaload, 1) := by decide +kernel
theorem dX7_findProper_46 : decode cX7_findProper 46 = .ok (.istore 6, 2) := by decide +kernel
theorem dX7_findProper_48 : decode cX7_findProper 48 = .ok (.iload 6, 2) := by decide +kernel
theorem dX7_findProper_50 : decode cX7_findProper 50 = .ok (.iconst 2, 1) := by decide +kernel
theorem dX7_findProper_51 : decode cX7_findProper 51 = .ok (.if_icmp .ne 14, 3) := by decide +kernel
theorem dX7_findProper_54 : decode cX7_findProper 54 = .ok (.aload_n 0, 1) := by decide +kernel
theorem dX7_findProper_55 : decode cX7_findProper 55 = .ok (.iload_n 1, 1) := by decide +kernel
theorem dX7_findProper_56 : decode cX7_findProper 56 = .ok (.iload 4, 2) := by decide +kernel
theorem dX7_findProper_58 : decode cX7_findProper 58 = .ok (.iload_n 2, 1) := by decide +kernel
theorem dX7_findProper_59 : decode cX7_findProper 59 = .ok (.invokevirtual 64, 3) := by decide +kernel
theorem dX7_findProper_62 : decode cX7_findProper 62 = .ok (.goto 4, 3) := by decide +kernel
theorem dX7_findProper_65 : decode cX7_findProper 65 = .ok (.iconst (-1), 1) := by decide +kernel
theorem dX7_findProper_66 : decode cX7_findProper 66 = .ok (.istore 7, 2) := by decide +kernel
theorem dX7_findProper_68 : decode cX7_findProper 68 = .ok (.iload 6, 2) := by decide +kernel
theorem dX7_findProper_70 : decode cX7_findProper 70 = .ok (.iconst 3, 1) := by decide +kernel
theorem dX7_findProper_71 : decode cX7_findProper 71 = .ok (.if_icmp .ne 13, 3) := by decide +kernel
theorem dX7_findProper_74 : decode cX7_findProper 74 = .ok (.aload_n 0, 1) := by decide +kernel
theorem dX7_findProper_75 : decode cX7_findProper 75 = .ok (.getfield 19, 3) := by decide +kernel
theorem dX7_findProper_78 : decode cX7_findProper 78 = .ok (.iload 5, 2) := by decide +kernel
theorem dX7_findProper_80 : decode cX7_findProper 80 = .ok (.iaload, 1) := by decide +kernel
theorem dX7_findProper_81 : decode cX7_findProper 81 = .ok (.goto 4, 3) := by decide +kernel
theorem dX7_findProper_84 : decode cX7_findProper 84 = .ok (.iconst (-1), 1) := by decide +kernel
theorem dX7_findProper_85 : decode cX7_findProper 85 = .ok (.istore 8, 2) := by decide +kernel
theorem dX7_findProper_87 : decode cX7_findProper 87 = .ok (.iload 6, 2) := by decide +kernel
theorem dX7_findProper_89 : decode cX7_findProper 89 = .ok (.ifCond .ne 8, 3) := by decide +kernel
theorem dX7_findProper_92 : decode cX7_findProper 92 = .ok (.iload 4, 2) := by decide +kernel
theorem dX7_findProper_94 : decode cX7_findProper 94 = .ok (.goto 64, 3) := by decide +kernel
theorem dX7_findProper_97 : decode cX7_findProper 97 = .ok (.iload 6, 2) := by decide +kernel
theorem dX7_findProper_99 : decode cX7_findProper 99 = .ok (.iconst 1, 1) := by decide +kernel
theorem dX7_findProper_100 : decode cX7_findProper 100 = .ok (.if_icmp .ne 14, 3) := by decide +kernel
theorem dX7_findProper_103 : decode cX7_findProper 103 = .ok (.iload_n 1, 1) := by decide +kernel
theorem dX7_findProper_104 : decode cX7_findProper 104 = .ok (.iload 4, 2) := by decide +kernel
theorem dX7_findProper_106 : decode cX7_findProper 106 = .ok (.iload 5, 2) := by decide +kernel
theorem dX7_findProper_108 : decode cX7_findProper 108 = .ok (.invokestatic 67, 3) := by decide +kernel
theorem dX7_findProper_111 : decode cX7_findProper 111 = .ok (.goto 47, 3) := by decide +kernel
theorem dX7_findProper_114 : decode cX7_findProper 114 = .ok (.iload 6, 2) := by decide +kernel
theorem dX7_findProper_116 : decode cX7_findProper 116 = .ok (.iconst 2, 1) := by decide +kernel
theorem dX7_findProper_117 : decode cX7_findProper 117 = .ok (.if_icmp .ne 26, 3) := by decide +kernel
theorem dX7_findProper_120 : decode cX7_findProper 120 = .ok (.iload 7, 2) := by decide +kernel
theorem dX7_findProper_122 : decode cX7_findProper 122 = .ok (.iconst (-1), 1) := by decide +kernel
theorem dX7_findProper_123 : decode cX7_findProper 123 = .ok (.if_icmp .ne 7, 3) := by decide +kernel
theorem dX7_findProper_126 : decode cX7_findProper 126 = .ok (.iconst (-1), 1) := by decide +kernel
theorem dX7_findProper_127 : decode cX7_findProper 127 = .ok (.goto 31, 3) := by decide +kernel
theorem dX7_findProper_130 : decode cX7_findProper 130 = .ok (.iload_n 1, 1) := by decide +kernel
theorem dX7_findProper_131 : decode cX7_findProper 131 = .ok (.iload 7, 2) := by decide +kernel
theorem dX7_findProper_133 : decode cX7_findProper 133 = .ok (.iconst 1, 1) := by decide +kernel
theorem dX7_findProper_134 : decode cX7_findProper 134 = .ok (.iadd, 1) := by decide +kernel
theorem dX7_findProper_135 : decode cX7_findProper 135 = .ok (.iload 5, 2) := by decide +kernel
theorem dX7_findProper_137 : decode cX7_findProper 137 = .ok (.invokestatic 67, 3) := by decide +kernel
theorem dX7_findProper_140 : decode cX7_findProper 140 = .ok (.goto 18, 3) := by decide +kernel
theorem dX7_findProper_143 : decode cX7_findProper 143 = .ok (.iload 8, 2) := by decide +kernel
theorem dX7_findProper_145 : decode cX7_findProper 145 = .ok (.iconst (-1), 1) := by decide +kernel
theorem dX7_findProper_146 : decode cX7_findProper 146 = .ok (.if_icmp .ne 7, 3) := by decide +kernel
theorem dX7_findProper_149 : decode cX7_findProper 149 = .ok (.iconst (-1), 1) := by decide +kernel
theorem dX7_findProper_150 : decode cX7_findProper 150 = .ok (.goto 8, 3) := by decide +kernel
theorem dX7_findProper_153 : decode cX7_findProper 153 = .ok (.iload 8, 2) := by decide +kernel
theorem dX7_findProper_155 : decode cX7_findProper 155 = .ok (.iload 4, 2) := by decide +kernel
theorem dX7_findProper_157 : decode cX7_findProper 157 = .ok (.iadd, 1) := by decide +kernel
theorem dX7_findProper_158 : decode cX7_findProper 158 = .ok (.istore 9, 2) := by decide +kernel
theorem dX7_findProper_160 : decode cX7_findProper 160 = .ok (.aload_n 0, 1) := by decide +kernel
theorem dX7_findProper_161 : decode cX7_findProper 161 = .ok (.getfield 19, 3) := by decide +kernel
theorem dX7_findProper_164 : decode cX7_findProper 164 = .ok (.iload_n 3, 1) := by decide +kernel
theorem dX7_findProper_165 : decode cX7_findProper 165 = .ok (.iload 9, 2) := by decide +kernel
theorem dX7_findProper_167 : decode cX7_findProper 167 = .ok (.iconst 0, 1) := by decide +kernel
theorem dX7_findProper_168 : decode cX7_findProper 168 = .ok (.iload_n 1, 1) := by decide +kernel
theorem dX7_findProper_169 : decode cX7_findProper 169 = .ok (.invokestatic 49, 3) := by decide +kernel
theorem dX7_findProper_172 : decode cX7_findProper 172 = .ok (.iconst 1, 1) := by decide +kernel
theorem dX7_findProper_173 : decode cX7_findProper 173 = .ok (.isub, 1) := by decide +kernel
theorem dX7_findProper_174 : decode cX7_findProper 174 = .ok (.invokestatic 42, 3) := by decide +kernel
theorem dX7_findProper_177 : decode cX7_findProper 177 = .ok (.ifCond .eq 8, 3) := by decide +kernel
theorem dX7_findProper_180 : decode cX7_findProper 180 = .ok (.iload 9, 2) := by decide +kernel
theorem dX7_findProper_182 : decode cX7_findProper 182 = .ok (.goto 4, 3) := by decide +kernel
theorem dX7_findProper_185 : decode cX7_findProper 185 = .ok (.iconst (-1), 1) := by decide +kernel
theorem dX7_findProper_186 : decode cX7_findProper 186 = .ok (.iastore, 1) := by decide +kernel
theorem dX7_findProper_187 : decode cX7_findProper 187 = .ok (.iinc 3 1, 3) := by decide +kernel
theorem dX7_findProper_190 : decode cX7_findProper 190 = .ok (.goto (-188), 3) := by decide +kernel
theorem dX7_findProper_193 : decode cX7_findProper 193 = .ok (.return_, 1) := by decide +kernel
theorem dX7_lay_0 : decode cX7_lay 0 = .ok (.aload_n 0, 1) := by decide +kernel
theorem dX7_lay_1 : decode cX7_lay 1 = .ok (.iload_n 1, 1) := by decide +kernel
theorem dX7_lay_2 : decode cX7_lay 2 = .ok (.iload_n 2, 1) := by decide +kernel
theorem dX7_lay_3 : decode cX7_lay 3 = .ok (.invokevirtual 70, 3) := by decide +kernel
theorem dX7_lay_6 : decode cX7_lay 6 = .ok (.iconst 0, 1) := by decide +kernel
theorem dX7_lay_7 : decode cX7_lay 7 = .ok (.istore_n 3, 1) := by decide +kernel
theorem dX7_lay_8 : decode cX7_lay 8 = .ok (.iload_n 3, 1) := by decide +kernel
theorem dX7_lay_9 : decode cX7_lay 9 = .ok (.sipush 366, 3) := by decide +kernel
theorem dX7_lay_12 : decode cX7_lay 12 = .ok (.if_icmp .ge 16, 3) := by decide +kernel
theorem dX7_lay_15 : decode cX7_lay 15 = .ok (.aload_n 0, 1) := by decide +kernel
theorem dX7_lay_16 : decode cX7_lay 16 = .ok (.getfield 25, 3) := by decide +kernel
theorem dX7_lay_19 : decode cX7_lay 19 = .ok (.iload_n 3, 1) := by decide +kernel
theorem dX7_lay_20 : decode cX7_lay 20 = .ok (.iconst 0, 1) := by decide +kernel
theorem dX7_lay_21 : decode cX7_lay 21 = .ok (.bastore, 1) := by decide +kernel
theorem dX7_lay_22 : decode cX7_lay 22 = .ok (.iinc 3 1, 3) := by decide +kernel
theorem dX7_lay_25 : decode cX7_lay 25 = .ok (.goto (-17), 3) := by decide +kernel
theorem dX7_lay_28 : decode cX7_lay 28 = .ok (.iconst 0, 1) := by decide +kernel
theorem dX7_lay_29 : decode cX7_lay 29 = .ok (.istore_n 3, 1) := by decide +kernel
theorem dX7_lay_30 : decode cX7_lay 30 = .ok (.iload_n 3, 1) := by decide +kernel
theorem dX7_lay_31 : decode cX7_lay 31 = .ok (.bipush 10, 2) := by decide +kernel
theorem dX7_lay_33 : decode cX7_lay 33 = .ok (.aload_n 0, 1) := by decide +kernel
theorem dX7_lay_34 : decode cX7_lay 34 = .ok (.getfield 7, 3) := by decide +kernel
theorem dX7_lay_37 : decode cX7_lay 37 = .ok (.iconst 0, 1) := by decide +kernel
theorem dX7_lay_38 : decode cX7_lay 38 = .ok (.iaload, 1) := by decide +kernel
theorem dX7_lay_39 : decode cX7_lay 39 = .ok (.imul, 1) := by decide +kernel
theorem dX7_lay_40 : decode cX7_lay 40 = .ok (.if_icmp .ge 136, 3) := by decide +kernel
theorem dX7_lay_43 : decode cX7_lay 43 = .ok (.iload_n 3, 1) := by decide +kernel
theorem dX7_lay_44 : decode cX7_lay 44 = .ok (.aload_n 0, 1) := by decide +kernel
theorem dX7_lay_45 : decode cX7_lay 45 = .ok (.getfield 7, 3) := by decide +kernel
theorem dX7_lay_48 : decode cX7_lay 48 = .ok (.iconst 0, 1) := by decide +kernel
theorem dX7_lay_49 : decode cX7_lay 49 = .ok (.iaload, 1) := by decide +kernel
theorem dX7_lay_50 : decode cX7_lay 50 = .ok (.irem, 1) := by decide +kernel
theorem dX7_lay_51 : decode cX7_lay 51 = .ok (.istore 4, 2) := by decide +kernel
theorem dX7_lay_53 : decode cX7_lay 53 = .ok (.aload_n 0, 1) := by decide +kernel
theorem dX7_lay_54 : decode cX7_lay 54 = .ok (.getfield 7, 3) := by decide +kernel
theorem dX7_lay_57 : decode cX7_lay 57 = .ok (.iload 4, 2) := by decide +kernel
theorem dX7_lay_59 : decode cX7_lay 59 = .ok (.iconst 1, 1) := by decide +kernel
theorem dX7_lay_60 : decode cX7_lay 60 = .ok (.invokestatic 61, 3) := by decide +kernel
theorem dX7_lay_63 : decode cX7_lay 63 = .ok (.iaload, 1) := by decide +kernel
theorem dX7_lay_64 : decode cX7_lay 64 = .ok (.bipush 9, 2) := by decide +kernel
theorem dX7_lay_66 : decode cX7_lay 66 = .ok (.iload_n 3, 1) := by decide +kernel
theorem dX7_lay_67 : decode cX7_lay 67 = .ok (.aload_n 0, 1) := by decide +kernel
theorem dX7_lay_68 : decode cX7_lay 68 = .ok (.getfield 7, 3) := by decide +kernel
theorem dX7_lay_71 : decode cX7_lay 71 = .ok (.iconst 0, 1) := by decide +kernel
theorem dX7_lay_72 : decode cX7_lay 72 = .ok (.iaload, 1) := by decide +kernel
theorem dX7_lay_73 : decode cX7_lay 73 = .ok (.idiv, 1) := by decide +kernel
theorem dX7_lay_74 : decode cX7_lay 74 = .ok (.isub, 1) := by decide +kernel
theorem dX7_lay_75 : decode cX7_lay 75 = .ok (.if_icmp .ne 95, 3) := by decide +kernel
theorem dX7_lay_78 : decode cX7_lay 78 = .ok (.aload_n 0, 1) := by decide +kernel
theorem dX7_lay_79 : decode cX7_lay 79 = .ok (.getfield 19, 3) := by decide +kernel
theorem dX7_lay_82 : decode cX7_lay 82 = .ok (.iload 4, 2) := by decide +kernel
theorem dX7_lay_84 : decode cX7_lay 84 = .ok (.iaload, 1) := by decide +kernel
theorem dX7_lay_85 : decode cX7_lay 85 = .ok (.iconst (-1), 1) := by decide +kernel
theorem dX7_lay_86 : decode cX7_lay 86 = .ok (.if_icmp .ne 9, 3) := by decide +kernel
theorem dX7_lay_89 : decode cX7_lay 89 = .ok (.sipush 366, 3) := by decide +kernel
theorem dX7_lay_92 : decode cX7_lay 92 = .ok (.goto 10, 3) := by decide +kernel
theorem dX7_lay_95 : decode cX7_lay 95 = .ok (.aload_n 0, 1) := by decide +kernel
theorem dX7_lay_96 : decode cX7_lay 96 = .ok (.getfield 19, 3) := by decide +kernel
theorem dX7_lay_99 : decode cX7_lay 99 = .ok (.iload 4, 2) := by decide +kernel
theorem dX7_lay_101 : decode cX7_lay 101 = .ok (.iaload, 1) := by decide +kernel
theorem dX7_lay_102 : decode cX7_lay 102 = .ok (.istore 5, 2) := by decide +kernel
theorem dX7_lay_104 : decode cX7_lay 104 = .ok (.iload 5, 2) := by decide +kernel
theorem dX7_lay_106 : decode cX7_lay 106 = .ok (.iload_n 1, 1) := by decide +kernel
theorem dX7_lay_107 : decode cX7_lay 107 = .ok (.invokestatic 49, 3) := by decide +kernel
theorem dX7_lay_110 : decode cX7_lay 110 = .ok (.if_icmp .ge 19, 3) := by decide +kernel
theorem dX7_lay_113 : decode cX7_lay 113 = .ok (.aload_n 0, 1) := by decide +kernel
theorem dX7_lay_114 : decode cX7_lay 114 = .ok (.getfield 25, 3) := by decide +kernel
theorem dX7_lay_117 : decode cX7_lay 117 = .ok (.iload 5, 2) := by decide +kernel
theorem dX7_lay_119 : decode cX7_lay 119 = .ok (.baload, 1) := by decide +kernel
theorem dX7_lay_120 : decode cX7_lay 120 = .ok (.ifCond .eq 9, 3) := by decide +kernel
theorem dX7_lay_123 : decode cX7_lay 123 = .ok (.iinc 5 1, 3) := by decide +kernel
theorem dX7_lay_126 : decode cX7_lay 126 = .ok (.goto (-22), 3) := by decide +kernel
theorem dX7_lay_129 : decode cX7_lay 129 = .ok (.aload_n 0, 1) := by decide +kernel
theorem dX7_lay_130 : decode cX7_lay 130 = .ok (.getfield 22, 3) := by decide +kernel
theorem dX7_lay_133 : decode cX7_lay 133 = .ok (.iload 4, 2) := by decide +kernel
theorem dX7_lay_135 : decode cX7_lay 135 = .ok (.iload 5, 2) := by decide +kernel
theorem dX7_lay_137 : decode cX7_lay 137 = .ok (.iload_n 1, 1) := by decide +kernel
theorem dX7_lay_138 : decode cX7_lay 138 = .ok (.invokestatic 49, 3) := by decide +kernel
theorem dX7_lay_141 : decode cX7_lay 141 = .ok (.if_icmp .ge 8, 3) := by decide +kernel
theorem dX7_lay_144 : decode cX7_lay 144 = .ok (.iload 5, 2) := by decide +kernel
theorem dX7_lay_146 : decode cX7_lay 146 = .ok (.goto 4, 3) := by decide +kernel
theorem dX7_lay_149 : decode cX7_lay 149 = .ok (.iconst (-1), 1) := by decide +kernel
theorem dX7_lay_150 : decode cX7_lay 150 = .ok (.iastore, 1) := by decide +kernel
theorem dX7_lay_151 : decode cX7_lay 151 = .ok (.aload_n 0, 1) := by decide +kernel
theorem dX7_lay_152 : decode cX7_lay 152 = .ok (.getfield 22, 3) := by decide +kernel
theorem dX7_lay_155 : decode cX7_lay 155 = .ok (.iload 4, 2) := by decide +kernel
theorem dX7_lay_157 : decode cX7_lay 157 = .ok (.iaload, 1) := by decide +kernel
theorem dX7_lay_158 : decode cX7_lay 158 = .ok (.iconst (-1), 1) := by decide +kernel
theorem dX7_lay_159 : decode cX7_lay 159 = .ok (.if_icmp .eq 11, 3) := by decide +kernel
theorem dX7_lay_162 : decode cX7_lay 162 = .ok (.aload_n 0, 1) := by decide +kernel
theorem dX7_lay_163 : decode cX7_lay 163 = .ok (.getfield 25, 3) := by decide +kernel
theorem dX7_lay_166 : decode cX7_lay 166 = .ok (.iload 5, 2) := by decide +kernel
theorem dX7_lay_168 : decode cX7_lay 168 = .ok (.iconst 1, 1) := by decide +kernel
theorem dX7_lay_169 : decode cX7_lay 169 = .ok (.bastore, 1) := by decide +kernel
theorem dX7_lay_170 : decode cX7_lay 170 = .ok (.iinc 3 1, 3) := by decide +kernel
theorem dX7_lay_173 : decode cX7_lay 173 = .ok (.goto (-143), 3) := by decide +kernel
theorem dX7_lay_176 : decode cX7_lay 176 = .ok (.return_, 1) := by decide +kernel
theorem dX7_layAll_0 : decode cX7_layAll 0 = .ok (.iconst 0, 1) := by decide +kernel
theorem dX7_layAll_1 : decode cX7_layAll 1 = .ok (.istore_n 2, 1) := by decide +kernel
theorem dX7_layAll_2 : decode cX7_layAll 2 = .ok (.iload_n 2, 1) := by decide +kernel
theorem dX7_layAll_3 : decode cX7_layAll 3 = .ok (.iconst 3, 1) := by decide +kernel
theorem dX7_layAll_4 : decode cX7_layAll 4 = .ok (.if_icmp .ge 58, 3) := by decide +kernel
theorem dX7_layAll_7 : decode cX7_layAll 7 = .ok (.aload_n 0, 1) := by decide +kernel
theorem dX7_layAll_8 : decode cX7_layAll 8 = .ok (.iload_n 1, 1) := by decide +kernel
theorem dX7_layAll_9 : decode cX7_layAll 9 = .ok (.aload_n 0, 1) := by decide +kernel
theorem dX7_layAll_10 : decode cX7_layAll 10 = .ok (.getfield 7, 3) := by decide +kernel
theorem dX7_layAll_13 : decode cX7_layAll 13 = .ok (.bipush 41, 2) := by decide +kernel
theorem dX7_layAll_15 : decode cX7_layAll 15 = .ok (.iload_n 2, 1) := by decide +kernel
theorem dX7_layAll_16 : decode cX7_layAll 16 = .ok (.iadd, 1) := by decide +kernel
theorem dX7_layAll_17 : decode cX7_layAll 17 = .ok (.iaload, 1) := by decide +kernel
theorem dX7_layAll_18 : decode cX7_layAll 18 = .ok (.invokevirtual 74, 3) := by decide +kernel
theorem dX7_layAll_21 : decode cX7_layAll 21 = .ok (.iconst 0, 1) := by decide +kernel
theorem dX7_layAll_22 : decode cX7_layAll 22 = .ok (.istore_n 3, 1) := by decide +kernel
theorem dX7_layAll_23 : decode cX7_layAll 23 = .ok (.iload_n 3, 1) := by decide +kernel
theorem dX7_layAll_24 : decode cX7_layAll 24 = .ok (.aload_n 0, 1) := by decide +kernel
theorem dX7_layAll_25 : decode cX7_layAll 25 = .ok (.getfield 7, 3) := by decide +kernel
theorem dX7_layAll_28 : decode cX7_layAll 28 = .ok (.iconst 0, 1) := by decide +kernel
theorem dX7_layAll_29 : decode cX7_layAll 29 = .ok (.iaload, 1) := by decide +kernel
theorem dX7_layAll_30 : decode cX7_layAll 30 = .ok (.if_icmp .ge 26, 3) := by decide +kernel
theorem dX7_layAll_33 : decode cX7_layAll 33 = .ok (.aload_n 0, 1) := by decide +kernel
theorem dX7_layAll_34 : decode cX7_layAll 34 = .ok (.getfield 29, 3) := by decide +kernel
theorem dX7_layAll_37 : decode cX7_layAll 37 = .ok (.bipush 10, 2) := by decide +kernel
theorem dX7_layAll_39 : decode cX7_layAll 39 = .ok (.iload_n 2, 1) := by decide +kernel
theorem dX7_layAll_40 : decode cX7_layAll 40 = .ok (.imul, 1) := by decide +kernel
theorem dX7_layAll_41 : decode cX7_layAll 41 = .ok (.iload_n 3, 1) := by decide +kernel
theorem dX7_layAll_42 : decode cX7_layAll 42 = .ok (.iadd, 1) := by decide +kernel
theorem dX7_layAll_43 : decode cX7_layAll 43 = .ok (.aload_n 0, 1) := by decide +kernel
theorem dX7_layAll_44 : decode cX7_layAll 44 = .ok (.getfield 22, 3) := by decide +kernel
theorem dX7_layAll_47 : decode cX7_layAll 47 = .ok (.iload_n 3, 1) := by decide +kernel
theorem dX7_layAll_48 : decode cX7_layAll 48 = .ok (.iaload, 1) := by decide +kernel
theorem dX7_layAll_49 : decode cX7_layAll 49 = .ok (.iastore, 1) := by decide +kernel
theorem dX7_layAll_50 : decode cX7_layAll 50 = .ok (.iinc 3 1, 3) := by decide +kernel
theorem dX7_layAll_53 : decode cX7_layAll 53 = .ok (.goto (-30), 3) := by decide +kernel
theorem dX7_layAll_56 : decode cX7_layAll 56 = .ok (.iinc 2 1, 3) := by decide +kernel
theorem dX7_layAll_59 : decode cX7_layAll 59 = .ok (.goto (-57), 3) := by decide +kernel
theorem dX7_layAll_62 : decode cX7_layAll 62 = .ok (.return_, 1) := by decide +kernel
theorem dX7_settledBy_0 : decode cX7_settledBy 0 = .ok (.aload_n 0, 1) := by decide +kernel
theorem dX7_settledBy_1 : decode cX7_settledBy 1 = .ok (.getfield 29, 3) := by decide +kernel
theorem dX7_settledBy_4 : decode cX7_settledBy 4 = .ok (.bipush 10, 2) := by decide +kernel
theorem dX7_settledBy_6 : decode cX7_settledBy 6 = .ok (.iload_n 1, 1) := by decide +kernel
theorem dX7_settledBy_7 : decode cX7_settledBy 7 = .ok (.iadd, 1) := by decide +kernel
theorem dX7_settledBy_8 : decode cX7_settledBy 8 = .ok (.iaload, 1) := by decide +kernel
theorem dX7_settledBy_9 : decode cX7_settledBy 9 = .ok (.aload_n 0, 1) := by decide +kernel
theorem dX7_settledBy_10 : decode cX7_settledBy 10 = .ok (.getfield 29, 3) := by decide +kernel
theorem dX7_settledBy_13 : decode cX7_settledBy 13 = .ok (.bipush 20, 2) := by decide +kernel
theorem dX7_settledBy_15 : decode cX7_settledBy 15 = .ok (.iload_n 1, 1) := by decide +kernel
theorem dX7_settledBy_16 : decode cX7_settledBy 16 = .ok (.iadd, 1) := by decide +kernel
theorem dX7_settledBy_17 : decode cX7_settledBy 17 = .ok (.iaload, 1) := by decide +kernel
theorem dX7_settledBy_18 : decode cX7_settledBy 18 = .ok (.if_icmp .ne 15, 3) := by decide +kernel
theorem dX7_settledBy_21 : decode cX7_settledBy 21 = .ok (.aload_n 0, 1) := by decide +kernel
theorem dX7_settledBy_22 : decode cX7_settledBy 22 = .ok (.getfield 29, 3) := by decide +kernel
theorem dX7_settledBy_25 : decode cX7_settledBy 25 = .ok (.bipush 10, 2) := by decide +kernel
theorem dX7_settledBy_27 : decode cX7_settledBy 27 = .ok (.iload_n 1, 1) := by decide +kernel
theorem dX7_settledBy_28 : decode cX7_settledBy 28 = .ok (.iadd, 1) := by decide +kernel
theorem dX7_settledBy_29 : decode cX7_settledBy 29 = .ok (.iaload, 1) := by decide +kernel
theorem dX7_settledBy_30 : decode cX7_settledBy 30 = .ok (.goto 9, 3) := by decide +kernel
theorem dX7_settledBy_33 : decode cX7_settledBy 33 = .ok (.aload_n 0, 1) := by decide +kernel
theorem dX7_settledBy_34 : decode cX7_settledBy 34 = .ok (.getfield 29, 3) := by decide +kernel
theorem dX7_settledBy_37 : decode cX7_settledBy 37 = .ok (.iload_n 1, 1) := by decide +kernel
theorem dX7_settledBy_38 : decode cX7_settledBy 38 = .ok (.iaload, 1) := by decide +kernel
theorem dX7_settledBy_39 : decode cX7_settledBy 39 = .ok (.ireturn, 1) := by decide +kernel
theorem dX7_quarrelsNow_0 : decode cX7_quarrelsNow 0 = .ok (.iconst 0, 1) := by decide +kernel
theorem dX7_quarrelsNow_1 : decode cX7_quarrelsNow 1 = .ok (.istore_n 1, 1) := by decide +kernel
theorem dX7_quarrelsNow_2 : decode cX7_quarrelsNow 2 = .ok (.iconst 0, 1) := by decide +kernel
theorem dX7_quarrelsNow_3 : decode cX7_quarrelsNow 3 = .ok (.istore_n 2, 1) := by decide +kernel
theorem dX7_quarrelsNow_4 : decode cX7_quarrelsNow 4 = .ok (.iload_n 2, 1) := by decide +kernel
theorem dX7_quarrelsNow_5 : decode cX7_quarrelsNow 5 = .ok (.aload_n 0, 1) := by decide +kernel
theorem dX7_quarrelsNow_6 : decode cX7_quarrelsNow 6 = .ok (.getfield 7, 3) := by decide +kernel
theorem dX7_quarrelsNow_9 : decode cX7_quarrelsNow 9 = .ok (.iconst 0, 1) := by decide +kernel
theorem dX7_quarrelsNow_10 : decode cX7_quarrelsNow 10 = .ok (.iaload, 1) := by decide +kernel
theorem dX7_quarrelsNow_11 : decode cX7_quarrelsNow 11 = .ok (.if_icmp .ge 53, 3) := by decide +kernel
theorem dX7_quarrelsNow_14 : decode cX7_quarrelsNow 14 = .ok (.iload_n 1, 1) := by decide +kernel
theorem dX7_quarrelsNow_15 : decode cX7_quarrelsNow 15 = .ok (.aload_n 0, 1) := by decide +kernel
theorem dX7_quarrelsNow_16 : decode cX7_quarrelsNow 16 = .ok (.getfield 29, 3) := by decide +kernel
theorem dX7_quarrelsNow_19 : decode cX7_quarrelsNow 19 = .ok (.iload_n 2, 1) := by decide +kernel
theorem dX7_quarrelsNow_20 : decode cX7_quarrelsNow 20 = .ok (.iaload, 1) := by decide +kernel
theorem dX7_quarrelsNow_21 : decode cX7_quarrelsNow 21 = .ok (.aload_n 0, 1) := by decide +kernel
theorem dX7_quarrelsNow_22 : decode cX7_quarrelsNow 22 = .ok (.getfield 29, 3) := by decide +kernel
theorem dX7_quarrelsNow_25 : decode cX7_quarrelsNow 25 = .ok (.bipush 10, 2) := by decide +kernel
theorem dX7_quarrelsNow_27 : decode cX7_quarrelsNow 27 = .ok (.iload_n 2, 1) := by decide +kernel
theorem dX7_quarrelsNow_28 : decode cX7_quarrelsNow 28 = .ok (.iadd, 1) := by decide +kernel
theorem dX7_quarrelsNow_29 : decode cX7_quarrelsNow 29 = .ok (.iaload, 1) := by decide +kernel
theorem dX7_quarrelsNow_30 : decode cX7_quarrelsNow 30 = .ok (.if_icmp .ne 25, 3) := by decide +kernel
theorem dX7_quarrelsNow_33 : decode cX7_quarrelsNow 33 = .ok (.aload_n 0, 1) := by decide +kernel
theorem dX7_quarrelsNow_34 : decode cX7_quarrelsNow 34 = .ok (.getfield 29, 3) := by decide +kernel
theorem dX7_quarrelsNow_37 : decode cX7_quarrelsNow 37 = .ok (.iload_n 2, 1) := by decide +kernel
theorem dX7_quarrelsNow_38 : decode cX7_quarrelsNow 38 = .ok (.iaload, 1) := by decide +kernel
theorem dX7_quarrelsNow_39 : decode cX7_quarrelsNow 39 = .ok (.aload_n 0, 1) := by decide +kernel
theorem dX7_quarrelsNow_40 : decode cX7_quarrelsNow 40 = .ok (.getfield 29, 3) := by decide +kernel
theorem dX7_quarrelsNow_43 : decode cX7_quarrelsNow 43 = .ok (.bipush 20, 2) := by decide +kernel
theorem dX7_quarrelsNow_45 : decode cX7_quarrelsNow 45 = .ok (.iload_n 2, 1) := by decide +kernel
theorem dX7_quarrelsNow_46 : decode cX7_quarrelsNow 46 = .ok (.iadd, 1) := by decide +kernel
theorem dX7_quarrelsNow_47 : decode cX7_quarrelsNow 47 = .ok (.iaload, 1) := by decide +kernel
theorem dX7_quarrelsNow_48 : decode cX7_quarrelsNow 48 = .ok (.if_icmp .ne 7, 3) := by decide +kernel
theorem dX7_quarrelsNow_51 : decode cX7_quarrelsNow 51 = .ok (.iconst 0, 1) := by decide +kernel
theorem dX7_quarrelsNow_52 : decode cX7_quarrelsNow 52 = .ok (.goto 4, 3) := by decide +kernel
theorem dX7_quarrelsNow_55 : decode cX7_quarrelsNow 55 = .ok (.iconst 1, 1) := by decide +kernel
theorem dX7_quarrelsNow_56 : decode cX7_quarrelsNow 56 = .ok (.iadd, 1) := by decide +kernel
theorem dX7_quarrelsNow_57 : decode cX7_quarrelsNow 57 = .ok (.istore_n 1, 1) := by decide +kernel
theorem dX7_quarrelsNow_58 : decode cX7_quarrelsNow 58 = .ok (.iinc 2 1, 3) := by decide +kernel
theorem dX7_quarrelsNow_61 : decode cX7_quarrelsNow 61 = .ok (.goto (-57), 3) := by decide +kernel
theorem dX7_quarrelsNow_64 : decode cX7_quarrelsNow 64 = .ok (.iload_n 1, 1) := by decide +kernel
theorem dX7_quarrelsNow_65 : decode cX7_quarrelsNow 65 = .ok (.ireturn, 1) := by decide +kernel
theorem dX7_append_0 : decode cX7_append 0 = .ok (.aload_n 0, 1) := by decide +kernel
theorem dX7_append_1 : decode cX7_append 1 = .ok (.iload_n 1, 1) := by decide +kernel
theorem dX7_append_2 : decode cX7_append 2 = .ok (.bipush 33, 2) := by decide +kernel
theorem dX7_append_4 : decode cX7_append 4 = .ok (.bipush 126, 2) := by decide +kernel
theorem dX7_append_6 : decode cX7_append 6 = .ok (.invokestatic 42, 3) := by decide +kernel
theorem dX7_append_9 : decode cX7_append 9 = .ok (.ifCond .ne 7, 3) := by decide +kernel
theorem dX7_append_12 : decode cX7_append 12 = .ok (.iconst 1, 1) := by decide +kernel
theorem dX7_append_13 : decode cX7_append 13 = .ok (.goto 17, 3) := by decide +kernel
theorem dX7_append_16 : decode cX7_append 16 = .ok (.aload_n 0, 1) := by decide +kernel
theorem dX7_append_17 : decode cX7_append 17 = .ok (.getfield 77, 3) := by decide +kernel
theorem dX7_append_20 : decode cX7_append 20 = .ok (.bipush 60, 2) := by decide +kernel
theorem dX7_append_22 : decode cX7_append 22 = .ok (.if_icmp .ne 7, 3) := by decide +kernel
theorem dX7_append_25 : decode cX7_append 25 = .ok (.iconst 2, 1) := by decide +kernel
theorem dX7_append_26 : decode cX7_append 26 = .ok (.goto 4, 3) := by decide +kernel
theorem dX7_append_29 : decode cX7_append 29 = .ok (.iconst 0, 1) := by decide +kernel
theorem dX7_append_30 : decode cX7_append 30 = .ok (.invokevirtual 80, 3) := by decide +kernel
theorem dX7_append_33 : decode cX7_append 33 = .ok (.ifCond .ne 5, 3) := by decide +kernel
theorem dX7_append_36 : decode cX7_append 36 = .ok (.iconst 0, 1) := by decide +kernel
theorem dX7_append_37 : decode cX7_append 37 = .ok (.ireturn, 1) := by decide +kernel
theorem dX7_append_38 : decode cX7_append 38 = .ok (.aload_n 0, 1) := by decide +kernel
theorem dX7_append_39 : decode cX7_append 39 = .ok (.getfield 16, 3) := by decide +kernel
theorem dX7_append_42 : decode cX7_append 42 = .ok (.aload_n 0, 1) := by decide +kernel
theorem dX7_append_43 : decode cX7_append 43 = .ok (.getfield 77, 3) := by decide +kernel
theorem dX7_append_46 : decode cX7_append 46 = .ok (.iload_n 1, 1) := by decide +kernel
theorem dX7_append_47 : decode cX7_append 47 = .ok (.iastore, 1) := by decide +kernel
theorem dX7_append_48 : decode cX7_append 48 = .ok (.aload_n 0, 1) := by decide +kernel
theorem dX7_append_49 : decode cX7_append 49 = .ok (.dup, 1) := by decide +kernel
theorem dX7_append_50 : decode cX7_append 50 = .ok (.getfield 77, 3) := by decide +kernel
theorem dX7_append_53 : decode cX7_append 53 = .ok (.iconst 1, 1) := by decide +kernel
theorem dX7_append_54 : decode cX7_append 54 = .ok (.iadd, 1) := by decide +kernel
theorem dX7_append_55 : decode cX7_append 55 = .ok (.putfield 77, 3) := by decide +kernel
theorem dX7_append_58 : decode cX7_append 58 = .ok (.aload_n 0, 1) := by decide +kernel
theorem dX7_append_59 : decode cX7_append 59 = .ok (.getfield 77, 3) := by decide +kernel
theorem dX7_append_62 : decode cX7_append 62 = .ok (.ireturn, 1) := by decide +kernel
theorem dX7_clearBuffer_0 : decode cX7_clearBuffer 0 = .ok (.aload_n 0, 1) := by decide +kernel
theorem dX7_clearBuffer_1 : decode cX7_clearBuffer 1 = .ok (.iconst 0, 1) := by decide +kernel
theorem dX7_clearBuffer_2 : decode cX7_clearBuffer 2 = .ok (.putfield 38, 3) := by decide +kernel
theorem dX7_clearBuffer_5 : decode cX7_clearBuffer 5 = .ok (.aload_n 0, 1) := by decide +kernel
theorem dX7_clearBuffer_6 : decode cX7_clearBuffer 6 = .ok (.getfield 77, 3) := by decide +kernel
theorem dX7_clearBuffer_9 : decode cX7_clearBuffer 9 = .ok (.istore_n 1, 1) := by decide +kernel
theorem dX7_clearBuffer_10 : decode cX7_clearBuffer 10 = .ok (.aload_n 0, 1) := by decide +kernel
theorem dX7_clearBuffer_11 : decode cX7_clearBuffer 11 = .ok (.iconst 0, 1) := by decide +kernel
theorem dX7_clearBuffer_12 : decode cX7_clearBuffer 12 = .ok (.putfield 77, 3) := by decide +kernel
theorem dX7_clearBuffer_15 : decode cX7_clearBuffer 15 = .ok (.iload_n 1, 1) := by decide +kernel
theorem dX7_clearBuffer_16 : decode cX7_clearBuffer 16 = .ok (.ireturn, 1) := by decide +kernel
theorem dX7_sign_0 : decode cX7_sign 0 = .ok (.aload_n 0, 1) := by decide +kernel
theorem dX7_sign_1 : decode cX7_sign 1 = .ok (.getfield 84, 3) := by decide +kernel
theorem dX7_sign_4 : decode cX7_sign 4 = .ok (.aload_n 0, 1) := by decide +kernel
theorem dX7_sign_5 : decode cX7_sign 5 = .ok (.getfield 77, 3) := by decide +kernel
theorem dX7_sign_8 : decode cX7_sign 8 = .ok (.if_icmp .ge 15, 3) := by decide +kernel
theorem dX7_sign_11 : decode cX7_sign 11 = .ok (.aload_n 0, 1) := by decide +kernel
theorem dX7_sign_12 : decode cX7_sign 12 = .ok (.getfield 16, 3) := by decide +kernel
theorem dX7_sign_15 : decode cX7_sign 15 = .ok (.aload_n 0, 1) := by decide +kernel
theorem dX7_sign_16 : decode cX7_sign 16 = .ok (.getfield 84, 3) := by decide +kernel
theorem dX7_sign_19 : decode cX7_sign 19 = .ok (.iaload, 1) := by decide +kernel
theorem dX7_sign_20 : decode cX7_sign 20 = .ok (.goto 4, 3) := by decide +kernel
theorem dX7_sign_23 : decode cX7_sign 23 = .ok (.iconst 0, 1) := by decide +kernel
theorem dX7_sign_24 : decode cX7_sign 24 = .ok (.istore_n 3, 1) := by decide +kernel
theorem dX7_sign_25 : decode cX7_sign 25 = .ok (.aload_n 0, 1) := by decide +kernel
theorem dX7_sign_26 : decode cX7_sign 26 = .ok (.aload_n 0, 1) := by decide +kernel
theorem dX7_sign_27 : decode cX7_sign 27 = .ok (.getfield 87, 3) := by decide +kernel
theorem dX7_sign_30 : decode cX7_sign 30 = .ok (.ifCond .ne 12, 3) := by decide +kernel
theorem dX7_sign_33 : decode cX7_sign 33 = .ok (.iload_n 3, 1) := by decide +kernel
theorem dX7_sign_34 : decode cX7_sign 34 = .ok (.iload_n 1, 1) := by decide +kernel
theorem dX7_sign_35 : decode cX7_sign 35 = .ok (.iload_n 2, 1) := by decide +kernel
theorem dX7_sign_36 : decode cX7_sign 36 = .ok (.invokestatic 42, 3) := by decide +kernel
theorem dX7_sign_39 : decode cX7_sign 39 = .ok (.ifCond .ne 7, 3) := by decide +kernel
theorem dX7_sign_42 : decode cX7_sign 42 = .ok (.iconst 1, 1) := by decide +kernel
theorem dX7_sign_43 : decode cX7_sign 43 = .ok (.goto 4, 3) := by decide +kernel
theorem dX7_sign_46 : decode cX7_sign 46 = .ok (.iconst 0, 1) := by decide +kernel
theorem dX7_sign_47 : decode cX7_sign 47 = .ok (.putfield 87, 3) := by decide +kernel
theorem dX7_sign_50 : decode cX7_sign 50 = .ok (.aload_n 0, 1) := by decide +kernel
theorem dX7_sign_51 : decode cX7_sign 51 = .ok (.dup, 1) := by decide +kernel
theorem dX7_sign_52 : decode cX7_sign 52 = .ok (.getfield 84, 3) := by decide +kernel
theorem dX7_sign_55 : decode cX7_sign 55 = .ok (.aload_n 0, 1) := by decide +kernel
theorem dX7_sign_56 : decode cX7_sign 56 = .ok (.getfield 87, 3) := by decide +kernel
theorem dX7_sign_59 : decode cX7_sign 59 = .ok (.ifCond .eq 7, 3) := by decide +kernel
theorem dX7_sign_62 : decode cX7_sign 62 = .ok (.iconst 0, 1) := by decide +kernel
theorem dX7_sign_63 : decode cX7_sign 63 = .ok (.goto 4, 3) := by decide +kernel
theorem dX7_sign_66 : decode cX7_sign 66 = .ok (.iconst 1, 1) := by decide +kernel
theorem dX7_sign_67 : decode cX7_sign 67 = .ok (.iadd, 1) := by decide +kernel
theorem dX7_sign_68 : decode cX7_sign 68 = .ok (.putfield 84, 3) := by decide +kernel
theorem dX7_sign_71 : decode cX7_sign 71 = .ok (.iload_n 3, 1) := by decide +kernel
theorem dX7_sign_72 : decode cX7_sign 72 = .ok (.ireturn, 1) := by decide +kernel
theorem dX7_isNext_0 : decode cX7_isNext 0 = .ok (.aload_n 0, 1) := by decide +kernel
theorem dX7_isNext_1 : decode cX7_isNext 1 = .ok (.getfield 87, 3) := by decide +kernel
theorem dX7_isNext_4 : decode cX7_isNext 4 = .ok (.ifCond .ne 31, 3) := by decide +kernel
theorem dX7_isNext_7 : decode cX7_isNext 7 = .ok (.aload_n 0, 1) := by decide +kernel
theorem dX7_isNext_8 : decode cX7_isNext 8 = .ok (.getfield 84, 3) := by decide +kernel
theorem dX7_isNext_11 : decode cX7_isNext 11 = .ok (.aload_n 0, 1) := by decide +kernel
theorem dX7_isNext_12 : decode cX7_isNext 12 = .ok (.getfield 77, 3) := by decide +kernel
theorem dX7_isNext_15 : decode cX7_isNext 15 = .ok (.if_icmp .ge 20, 3) := by decide +kernel
theorem dX7_isNext_18 : decode cX7_isNext 18 = .ok (.aload_n 0, 1) := by decide +kernel
theorem dX7_isNext_19 : decode cX7_isNext 19 = .ok (.getfield 16, 3) := by decide +kernel
theorem dX7_isNext_22 : decode cX7_isNext 22 = .ok (.aload_n 0, 1) := by decide +kernel
theorem dX7_isNext_23 : decode cX7_isNext 23 = .ok (.getfield 84, 3) := by decide +kernel
theorem dX7_isNext_26 : decode cX7_isNext 26 = .ok (.iaload, 1) := by decide +kernel
theorem dX7_isNext_27 : decode cX7_isNext 27 = .ok (.iload_n 1, 1) := by decide +kernel
theorem dX7_isNext_28 : decode cX7_isNext 28 = .ok (.if_icmp .ne 7, 3) := by decide +kernel
theorem dX7_isNext_31 : decode cX7_isNext 31 = .ok (.iconst 1, 1) := by decide +kernel
theorem dX7_isNext_32 : decode cX7_isNext 32 = .ok (.goto 4, 3) := by decide +kernel
theorem dX7_isNext_35 : decode cX7_isNext 35 = .ok (.iconst 0, 1) := by decide +kernel
theorem dX7_isNext_36 : decode cX7_isNext 36 = .ok (.ireturn, 1) := by decide +kernel
theorem dX7_number_0 : decode cX7_number 0 = .ok (.aload_n 0, 1) := by decide +kernel
theorem dX7_number_1 : decode cX7_number 1 = .ok (.bipush 48, 2) := by decide +kernel
theorem dX7_number_3 : decode cX7_number 3 = .ok (.bipush 57, 2) := by decide +kernel
theorem dX7_number_5 : decode cX7_number 5 = .ok (.invokevirtual 91, 3) := by decide +kernel
theorem dX7_number_8 : decode cX7_number 8 = .ok (.bipush 48, 2) := by decide +kernel
theorem dX7_number_10 : decode cX7_number 10 = .ok (.isub, 1) := by decide +kernel
theorem dX7_number_11 : decode cX7_number 11 = .ok (.istore_n 2, 1) := by decide +kernel
theorem dX7_number_12 : decode cX7_number 12 = .ok (.aload_n 0, 1) := by decide +kernel
theorem dX7_number_13 : decode cX7_number 13 = .ok (.getfield 87, 3) := by decide +kernel
theorem dX7_number_16 : decode cX7_number 16 = .ok (.ifCond .ne 78, 3) := by decide +kernel
theorem dX7_number_19 : decode cX7_number 19 = .ok (.iload_n 2, 1) := by decide +kernel
theorem dX7_number_20 : decode cX7_number 20 = .ok (.ifCond .le 74, 3) := by decide +kernel
theorem dX7_number_23 : decode cX7_number 23 = .ok (.aload_n 0, 1) := by decide +kernel
theorem dX7_number_24 : decode cX7_number 24 = .ok (.getfield 84, 3) := by decide +kernel
theorem dX7_number_27 : decode cX7_number 27 = .ok (.aload_n 0, 1) := by decide +kernel
theorem dX7_number_28 : decode cX7_number 28 = .ok (.getfield 77, 3) := by decide +kernel
theorem dX7_number_31 : decode cX7_number 31 = .ok (.if_icmp .ge 63, 3) := by decide +kernel
theorem dX7_number_34 : decode cX7_number 34 = .ok (.aload_n 0, 1) := by decide +kernel
theorem dX7_number_35 : decode cX7_number 35 = .ok (.getfield 16, 3) := by decide +kernel
theorem dX7_number_38 : decode cX7_number 38 = .ok (.aload_n 0, 1) := by decide +kernel
theorem dX7_number_39 : decode cX7_number 39 = .ok (.getfield 84, 3) := by decide +kernel
theorem dX7_number_42 : decode cX7_number 42 = .ok (.iaload, 1) := by decide +kernel
theorem dX7_number_43 : decode cX7_number 43 = .ok (.bipush 48, 2) := by decide +kernel
theorem dX7_number_45 : decode cX7_number 45 = .ok (.bipush 57, 2) := by decide +kernel
theorem dX7_number_47 : decode cX7_number 47 = .ok (.invokestatic 42, 3) := by decide +kernel
theorem dX7_number_50 : decode cX7_number 50 = .ok (.ifCond .eq 44, 3) := by decide +kernel
theorem dX7_number_53 : decode cX7_number 53 = .ok (.bipush 10, 2) := by decide +kernel
theorem dX7_number_55 : decode cX7_number 55 = .ok (.iload_n 2, 1) := by decide +kernel
theorem dX7_number_56 : decode cX7_number 56 = .ok (.imul, 1) := by decide +kernel
theorem dX7_number_57 : decode cX7_number 57 = .ok (.aload_n 0, 1) := by decide +kernel
theorem dX7_number_58 : decode cX7_number 58 = .ok (.getfield 16, 3) := by decide +kernel
theorem dX7_number_61 : decode cX7_number 61 = .ok (.aload_n 0, 1) := by decide +kernel
theorem dX7_number_62 : decode cX7_number 62 = .ok (.getfield 84, 3) := by decide +kernel
theorem dX7_number_65 : decode cX7_number 65 = .ok (.iaload, 1) := by decide +kernel
theorem dX7_number_66 : decode cX7_number 66 = .ok (.iadd, 1) := by decide +kernel
theorem dX7_number_67 : decode cX7_number 67 = .ok (.bipush 48, 2) := by decide +kernel
theorem dX7_number_69 : decode cX7_number 69 = .ok (.isub, 1) := by decide +kernel
theorem dX7_number_70 : decode cX7_number 70 = .ok (.iload_n 1, 1) := by decide +kernel
theorem dX7_number_71 : decode cX7_number 71 = .ok (.if_icmp .gt 23, 3) := by decide +kernel
theorem dX7_number_74 : decode cX7_number 74 = .ok (.bipush 10, 2) := by decide +kernel
theorem dX7_number_76 : decode cX7_number 76 = .ok (.iload_n 2, 1) := by decide +kernel
theorem dX7_number_77 : decode cX7_number 77 = .ok (.imul, 1) := by decide +kernel
theorem dX7_number_78 : decode cX7_number 78 = .ok (.aload_n 0, 1) := by decide +kernel
theorem dX7_number_79 : decode cX7_number 79 = .ok (.bipush 48, 2) := by decide +kernel
theorem dX7_number_81 : decode cX7_number 81 = .ok (.bipush 57, 2) := by decide +kernel
theorem dX7_number_83 : decode cX7_number 83 = .ok (.invokevirtual 91, 3) := by decide +kernel
theorem dX7_number_86 : decode cX7_number 86 = .ok (.iadd, 1) := by decide +kernel
theorem dX7_number_87 : decode cX7_number 87 = .ok (.bipush 48, 2) := by decide +kernel
theorem dX7_number_89 : decode cX7_number 89 = .ok (.isub, 1) := by decide +kernel
theorem dX7_number_90 : decode cX7_number 90 = .ok (.istore_n 2, 1) := by decide +kernel
theorem dX7_number_91 : decode cX7_number 91 = .ok (.goto (-79), 3) := by decide +kernel
theorem dX7_number_94 : decode cX7_number 94 = .ok (.iload_n 2, 1) := by decide +kernel
theorem dX7_number_95 : decode cX7_number 95 = .ok (.ireturn, 1) := by decide +kernel
theorem dX7_read_0 : decode cX7_read 0 = .ok (.aload_n 0, 1) := by decide +kernel
theorem dX7_read_1 : decode cX7_read 1 = .ok (.getfield 84, 3) := by decide +kernel
theorem dX7_read_4 : decode cX7_read 4 = .ok (.aload_n 0, 1) := by decide +kernel
theorem dX7_read_5 : decode cX7_read 5 = .ok (.getfield 77, 3) := by decide +kernel
theorem dX7_read_8 : decode cX7_read 8 = .ok (.if_icmp .ge 15, 3) := by decide +kernel
theorem dX7_read_11 : decode cX7_read 11 = .ok (.aload_n 0, 1) := by decide +kernel
theorem dX7_read_12 : decode cX7_read 12 = .ok (.getfield 16, 3) := by decide +kernel
theorem dX7_read_15 : decode cX7_read 15 = .ok (.aload_n 0, 1) := by decide +kernel
theorem dX7_read_16 : decode cX7_read 16 = .ok (.getfield 84, 3) := by decide +kernel
theorem dX7_read_19 : decode cX7_read 19 = .ok (.iaload, 1) := by decide +kernel
theorem dX7_read_20 : decode cX7_read 20 = .ok (.goto 4, 3) := by decide +kernel
theorem dX7_read_23 : decode cX7_read 23 = .ok (.iconst 0, 1) := by decide +kernel
theorem dX7_read_24 : decode cX7_read 24 = .ok (.istore_n 1, 1) := by decide +kernel
theorem dX7_read_25 : decode cX7_read 25 = .ok (.aload_n 0, 1) := by decide +kernel
theorem dX7_read_26 : decode cX7_read 26 = .ok (.aload_n 0, 1) := by decide +kernel
theorem dX7_read_27 : decode cX7_read 27 = .ok (.getfield 87, 3) := by decide +kernel
theorem dX7_read_30 : decode cX7_read 30 = .ok (.ifCond .ne 27, 3) := by decide +kernel
theorem dX7_read_33 : decode cX7_read 33 = .ok (.iload_n 1, 1) := by decide +kernel
theorem dX7_read_34 : decode cX7_read 34 = .ok (.bipush 100, 2) := by decide +kernel
theorem dX7_read_36 : decode cX7_read 36 = .ok (.if_icmp .eq 25, 3) := by decide +kernel
theorem dX7_read_39 : decode cX7_read 39 = .ok (.iload_n 1, 1) := by decide +kernel
theorem dX7_read_40 : decode cX7_read 40 = .ok (.bipush 119, 2) := by decide +kernel
theorem dX7_read_42 : decode cX7_read 42 = .ok (.if_icmp .eq 19, 3) := by decide +kernel
theorem dX7_read_45 : decode cX7_read 45 = .ok (.iload_n 1, 1) := by decide +kernel
theorem dX7_read_46 : decode cX7_read 46 = .ok (.bipush 109, 2) := by decide +kernel
theorem dX7_read_48 : decode cX7_read 48 = .ok (.if_icmp .eq 13, 3) := by decide +kernel
theorem dX7_read_51 : decode cX7_read 51 = .ok (.iload_n 1, 1) := by decide +kernel
theorem dX7_read_52 : decode cX7_read 52 = .ok (.bipush 97, 2) := by decide +kernel
theorem dX7_read_54 : decode cX7_read 54 = .ok (.if_icmp .eq 7, 3) := by decide +kernel
theorem dX7_read_57 : decode cX7_read 57 = .ok (.iconst 1, 1) := by decide +kernel
theorem dX7_read_58 : decode cX7_read 58 = .ok (.goto 4, 3) := by decide +kernel
theorem dX7_read_61 : decode cX7_read 61 = .ok (.iconst 0, 1) := by decide +kernel
theorem dX7_read_62 : decode cX7_read 62 = .ok (.putfield 87, 3) := by decide +kernel
theorem dX7_read_65 : decode cX7_read 65 = .ok (.aload_n 0, 1) := by decide +kernel
theorem dX7_read_66 : decode cX7_read 66 = .ok (.dup, 1) := by decide +kernel
theorem dX7_read_67 : decode cX7_read 67 = .ok (.getfield 84, 3) := by decide +kernel
theorem dX7_read_70 : decode cX7_read 70 = .ok (.aload_n 0, 1) := by decide +kernel
theorem dX7_read_71 : decode cX7_read 71 = .ok (.getfield 87, 3) := by decide +kernel
theorem dX7_read_74 : decode cX7_read 74 = .ok (.ifCond .eq 7, 3) := by decide +kernel
theorem dX7_read_77 : decode cX7_read 77 = .ok (.iconst 0, 1) := by decide +kernel
theorem dX7_read_78 : decode cX7_read 78 = .ok (.goto 4, 3) := by decide +kernel
theorem dX7_read_81 : decode cX7_read 81 = .ok (.iconst 1, 1) := by decide +kernel
theorem dX7_read_82 : decode cX7_read 82 = .ok (.iadd, 1) := by decide +kernel
theorem dX7_read_83 : decode cX7_read 83 = .ok (.putfield 84, 3) := by decide +kernel
theorem dX7_read_86 : decode cX7_read 86 = .ok (.aload_n 0, 1) := by decide +kernel
theorem dX7_read_87 : decode cX7_read 87 = .ok (.getfield 32, 3) := by decide +kernel
theorem dX7_read_90 : decode cX7_read 90 = .ok (.iconst 0, 1) := by decide +kernel
theorem dX7_read_91 : decode cX7_read 91 = .ok (.iload_n 1, 1) := by decide +kernel
theorem dX7_read_92 : decode cX7_read 92 = .ok (.bipush 100, 2) := by decide +kernel
theorem dX7_read_94 : decode cX7_read 94 = .ok (.if_icmp .ne 7, 3) := by decide +kernel
theorem dX7_read_97 : decode cX7_read 97 = .ok (.iconst 0, 1) := by decide +kernel
theorem dX7_read_98 : decode cX7_read 98 = .ok (.goto 24, 3) := by decide +kernel
theorem dX7_read_101 : decode cX7_read 101 = .ok (.iload_n 1, 1) := by decide +kernel
theorem dX7_read_102 : decode cX7_read 102 = .ok (.bipush 119, 2) := by decide +kernel
theorem dX7_read_104 : decode cX7_read 104 = .ok (.if_icmp .ne 7, 3) := by decide +kernel
theorem dX7_read_107 : decode cX7_read 107 = .ok (.iconst 1, 1) := by decide +kernel
theorem dX7_read_108 : decode cX7_read 108 = .ok (.goto 14, 3) := by decide +kernel
theorem dX7_read_111 : decode cX7_read 111 = .ok (.iload_n 1, 1) := by decide +kernel
theorem dX7_read_112 : decode cX7_read 112 = .ok (.bipush 109, 2) := by decide +kernel
theorem dX7_read_114 : decode cX7_read 114 = .ok (.if_icmp .ne 7, 3) := by decide +kernel
theorem dX7_read_117 : decode cX7_read 117 = .ok (.iconst 2, 1) := by decide +kernel
theorem dX7_read_118 : decode cX7_read 118 = .ok (.goto 4, 3) := by decide +kernel
theorem dX7_read_121 : decode cX7_read 121 = .ok (.iconst 3, 1) := by decide +kernel
theorem dX7_read_122 : decode cX7_read 122 = .ok (.iastore, 1) := by decide +kernel
theorem dX7_read_123 : decode cX7_read 123 = .ok (.aload_n 0, 1) := by decide +kernel
theorem dX7_read_124 : decode cX7_read 124 = .ok (.getfield 32, 3) := by decide +kernel
theorem dX7_read_127 : decode cX7_read 127 = .ok (.iconst 3, 1) := by decide +kernel
theorem dX7_read_128 : decode cX7_read 128 = .ok (.iconst (-1), 1) := by decide +kernel
theorem dX7_read_129 : decode cX7_read 129 = .ok (.iastore, 1) := by decide +kernel
theorem dX7_read_130 : decode cX7_read 130 = .ok (.iload_n 1, 1) := by decide +kernel
theorem dX7_read_131 : decode cX7_read 131 = .ok (.bipush 97, 2) := by decide +kernel
theorem dX7_read_133 : decode cX7_read 133 = .ok (.if_icmp .ne 80, 3) := by decide +kernel
theorem dX7_read_136 : decode cX7_read 136 = .ok (.aload_n 0, 1) := by decide +kernel
theorem dX7_read_137 : decode cX7_read 137 = .ok (.getfield 32, 3) := by decide +kernel
theorem dX7_read_140 : decode cX7_read 140 = .ok (.iconst 3, 1) := by decide +kernel
theorem dX7_read_141 : decode cX7_read 141 = .ok (.aload_n 0, 1) := by decide +kernel
theorem dX7_read_142 : decode cX7_read 142 = .ok (.bipush 48, 2) := by decide +kernel
theorem dX7_read_144 : decode cX7_read 144 = .ok (.bipush 57, 2) := by decide +kernel
theorem dX7_read_146 : decode cX7_read 146 = .ok (.invokevirtual 91, 3) := by decide +kernel
theorem dX7_read_149 : decode cX7_read 149 = .ok (.bipush 48, 2) := by decide +kernel
theorem dX7_read_151 : decode cX7_read 151 = .ok (.isub, 1) := by decide +kernel
theorem dX7_read_152 : decode cX7_read 152 = .ok (.iastore, 1) := by decide +kernel
theorem dX7_read_153 : decode cX7_read 153 = .ok (.aload_n 0, 1) := by decide +kernel
theorem dX7_read_154 : decode cX7_read 154 = .ok (.bipush 45, 2) := by decide +kernel
theorem dX7_read_156 : decode cX7_read 156 = .ok (.invokevirtual 94, 3) := by decide +kernel
theorem dX7_read_159 : decode cX7_read 159 = .ok (.istore_n 2, 1) := by decide +kernel
theorem dX7_read_160 : decode cX7_read 160 = .ok (.iload_n 2, 1) := by decide +kernel
theorem dX7_read_161 : decode cX7_read 161 = .ok (.ifCond .eq 14, 3) := by decide +kernel
theorem dX7_read_164 : decode cX7_read 164 = .ok (.aload_n 0, 1) := by decide +kernel
theorem dX7_read_165 : decode cX7_read 165 = .ok (.bipush 45, 2) := by decide +kernel
theorem dX7_read_167 : decode cX7_read 167 = .ok (.bipush 45, 2) := by decide +kernel
theorem dX7_read_169 : decode cX7_read 169 = .ok (.invokevirtual 91, 3) := by decide +kernel
theorem dX7_read_172 : decode cX7_read 172 = .ok (.goto 11, 3) := by decide +kernel
theorem dX7_read_175 : decode cX7_read 175 = .ok (.aload_n 0, 1) := by decide +kernel
theorem dX7_read_176 : decode cX7_read 176 = .ok (.bipush 43, 2) := by decide +kernel
theorem dX7_read_178 : decode cX7_read 178 = .ok (.bipush 43, 2) := by decide +kernel
theorem dX7_read_180 : decode cX7_read 180 = .ok (.invokevirtual 91, 3) := by decide +kernel
theorem dX7_read_183 : decode cX7_read 183 = .ok (.istore_n 3, 1) := by decide +kernel
theorem dX7_read_184 : decode cX7_read 184 = .ok (.aload_n 0, 1) := by decide +kernel
theorem dX7_read_185 : decode cX7_read 185 = .ok (.getfield 32, 3) := by decide +kernel
theorem dX7_read_188 : decode cX7_read 188 = .ok (.iconst 2, 1) := by decide +kernel
theorem dX7_read_189 : decode cX7_read 189 = .ok (.iload_n 2, 1) := by decide +kernel
theorem dX7_read_190 : decode cX7_read 190 = .ok (.ifCond .eq 13, 3) := by decide +kernel
theorem dX7_read_193 : decode cX7_read 193 = .ok (.aload_n 0, 1) := by decide +kernel
theorem dX7_read_194 : decode cX7_read 194 = .ok (.bipush 90, 2) := by decide +kernel
theorem dX7_read_196 : decode cX7_read 196 = .ok (.invokevirtual 97, 3) := by decide +kernel
theorem dX7_read_199 : decode cX7_read 199 = .ok (.ineg, 1) := by decide +kernel
theorem dX7_read_200 : decode cX7_read 200 = .ok (.goto 9, 3) := by decide +kernel
theorem dX7_read_203 : decode cX7_read 203 = .ok (.aload_n 0, 1) := by decide +kernel
theorem dX7_read_204 : decode cX7_read 204 = .ok (.bipush 90, 2) := by decide +kernel
theorem dX7_read_206 : decode cX7_read 206 = .ok (.invokevirtual 97, 3) := by decide +kernel
theorem dX7_read_209 : decode cX7_read 209 = .ok (.iastore, 1) := by decide +kernel
theorem dX7_read_210 : decode cX7_read 210 = .ok (.goto 48, 3) := by decide +kernel
theorem dX7_read_213 : decode cX7_read 213 = .ok (.aload_n 0, 1) := by decide +kernel
theorem dX7_read_214 : decode cX7_read 214 = .ok (.getfield 32, 3) := by decide +kernel
theorem dX7_read_217 : decode cX7_read 217 = .ok (.iconst 2, 1) := by decide +kernel
theorem dX7_read_218 : decode cX7_read 218 = .ok (.aload_n 0, 1) := by decide +kernel
theorem dX7_read_219 : decode cX7_read 219 = .ok (.sipush 365, 3) := by decide +kernel
theorem dX7_read_222 : decode cX7_read 222 = .ok (.invokevirtual 97, 3) := by decide +kernel
theorem dX7_read_225 : decode cX7_read 225 = .ok (.iastore, 1) := by decide +kernel
theorem dX7_read_226 : decode cX7_read 226 = .ok (.iload_n 1, 1) := by decide +kernel
theorem dX7_read_227 : decode cX7_read 227 = .ok (.bipush 100, 2) := by decide +kernel
theorem dX7_read_229 : decode cX7_read 229 = .ok (.if_icmp .eq 29, 3) := by decide +kernel
theorem dX7_read_232 : decode cX7_read 232 = .ok (.aload_n 0, 1) := by decide +kernel
theorem dX7_read_233 : decode cX7_read 233 = .ok (.bipush 44, 2) := by decide +kernel
theorem dX7_read_235 : decode cX7_read 235 = .ok (.bipush 44, 2) := by decide +kernel
theorem dX7_read_237 : decode cX7_read 237 = .ok (.invokevirtual 91, 3) := by decide +kernel
theorem dX7_read_240 : decode cX7_read 240 = .ok (.istore_n 2, 1) := by decide +kernel
theorem dX7_read_241 : decode cX7_read 241 = .ok (.aload_n 0, 1) := by decide +kernel
theorem dX7_read_242 : decode cX7_read 242 = .ok (.getfield 32, 3) := by decide +kernel
theorem dX7_read_245 : decode cX7_read 245 = .ok (.iconst 3, 1) := by decide +kernel
theorem dX7_read_246 : decode cX7_read 246 = .ok (.aload_n 0, 1) := by decide +kernel
theorem dX7_read_247 : decode cX7_read 247 = .ok (.bipush 48, 2) := by decide +kernel
theorem dX7_read_249 : decode cX7_read 249 = .ok (.bipush 54, 2) := by decide +kernel
theorem dX7_read_251 : decode cX7_read 251 = .ok (.invokevirtual 91, 3) := by decide +kernel
theorem dX7_read_254 : decode cX7_read 254 = .ok (.bipush 48, 2) := by decide +kernel
theorem dX7_read_256 : decode cX7_read 256 = .ok (.isub, 1) := by decide +kernel
theorem dX7_read_257 : decode cX7_read 257 = .ok (.iastore, 1) := by decide +kernel
theorem dX7_read_258 : decode cX7_read 258 = .ok (.aload_n 0, 1) := by decide +kernel
theorem dX7_read_259 : decode cX7_read 259 = .ok (.getfield 32, 3) := by decide +kernel
theorem dX7_read_262 : decode cX7_read 262 = .ok (.iconst 1, 1) := by decide +kernel
theorem dX7_read_263 : decode cX7_read 263 = .ok (.iconst 0, 1) := by decide +kernel
theorem dX7_read_264 : decode cX7_read 264 = .ok (.iastore, 1) := by decide +kernel
theorem dX7_read_265 : decode cX7_read 265 = .ok (.aload_n 0, 1) := by decide +kernel
theorem dX7_read_266 : decode cX7_read 266 = .ok (.bipush 94, 2) := by decide +kernel
theorem dX7_read_268 : decode cX7_read 268 = .ok (.invokevirtual 94, 3) := by decide +kernel
theorem dX7_read_271 : decode cX7_read 271 = .ok (.ifCond .eq 29, 3) := by decide +kernel
theorem dX7_read_274 : decode cX7_read 274 = .ok (.aload_n 0, 1) := by decide +kernel
theorem dX7_read_275 : decode cX7_read 275 = .ok (.bipush 94, 2) := by decide +kernel
theorem dX7_read_277 : decode cX7_read 277 = .ok (.bipush 94, 2) := by decide +kernel
theorem dX7_read_279 : decode cX7_read 279 = .ok (.invokevirtual 91, 3) := by decide +kernel
theorem dX7_read_282 : decode cX7_read 282 = .ok (.istore_n 2, 1) := by decide +kernel
theorem dX7_read_283 : decode cX7_read 283 = .ok (.aload_n 0, 1) := by decide +kernel
theorem dX7_read_284 : decode cX7_read 284 = .ok (.getfield 32, 3) := by decide +kernel
theorem dX7_read_287 : decode cX7_read 287 = .ok (.iconst 1, 1) := by decide +kernel
theorem dX7_read_288 : decode cX7_read 288 = .ok (.aload_n 0, 1) := by decide +kernel
theorem dX7_read_289 : decode cX7_read 289 = .ok (.bipush 48, 2) := by decide +kernel
theorem dX7_read_291 : decode cX7_read 291 = .ok (.bipush 57, 2) := by decide +kernel
theorem dX7_read_293 : decode cX7_read 293 = .ok (.invokevirtual 91, 3) := by decide +kernel
theorem dX7_read_296 : decode cX7_read 296 = .ok (.bipush 48, 2) := by decide +kernel
theorem dX7_read_298 : decode cX7_read 298 = .ok (.isub, 1) := by decide +kernel
theorem dX7_read_299 : decode cX7_read 299 = .ok (.iastore, 1) := by decide +kernel
theorem dX7_read_300 : decode cX7_read 300 = .ok (.return_, 1) := by decide +kernel
theorem dX7_adds_0 : decode cX7_adds 0 = .ok (.aload_n 0, 1) := by decide +kernel
theorem dX7_adds_1 : decode cX7_adds 1 = .ok (.getfield 7, 3) := by decide +kernel
theorem dX7_adds_4 : decode cX7_adds 4 = .ok (.iconst 0, 1) := by decide +kernel
theorem dX7_adds_5 : decode cX7_adds 5 = .ok (.iaload, 1) := by decide +kernel
theorem dX7_adds_6 : decode cX7_adds 6 = .ok (.istore_n 1, 1) := by decide +kernel
theorem dX7_adds_7 : decode cX7_adds 7 = .ok (.iload_n 1, 1) := by decide +kernel
theorem dX7_adds_8 : decode cX7_adds 8 = .ok (.bipush 10, 2) := by decide +kernel
theorem dX7_adds_10 : decode cX7_adds 10 = .ok (.if_icmp .ge 27, 3) := by decide +kernel
theorem dX7_adds_13 : decode cX7_adds 13 = .ok (.aload_n 0, 1) := by decide +kernel
theorem dX7_adds_14 : decode cX7_adds 14 = .ok (.getfield 32, 3) := by decide +kernel
theorem dX7_adds_17 : decode cX7_adds 17 = .ok (.iconst 0, 1) := by decide +kernel
theorem dX7_adds_18 : decode cX7_adds 18 = .ok (.iaload, 1) := by decide +kernel
theorem dX7_adds_19 : decode cX7_adds 19 = .ok (.iconst 3, 1) := by decide +kernel
theorem dX7_adds_20 : decode cX7_adds 20 = .ok (.if_icmp .ne 13, 3) := by decide +kernel
theorem dX7_adds_23 : decode cX7_adds 23 = .ok (.aload_n 0, 1) := by decide +kernel
theorem dX7_adds_24 : decode cX7_adds 24 = .ok (.getfield 32, 3) := by decide +kernel
theorem dX7_adds_27 : decode cX7_adds 27 = .ok (.iconst 3, 1) := by decide +kernel
theorem dX7_adds_28 : decode cX7_adds 28 = .ok (.iaload, 1) := by decide +kernel
theorem dX7_adds_29 : decode cX7_adds 29 = .ok (.iload_n 1, 1) := by decide +kernel
theorem dX7_adds_30 : decode cX7_adds 30 = .ok (.if_icmp .ge 7, 3) := by decide +kernel
theorem dX7_adds_33 : decode cX7_adds 33 = .ok (.iconst 1, 1) := by decide +kernel
theorem dX7_adds_34 : decode cX7_adds 34 = .ok (.goto 4, 3) := by decide +kernel
theorem dX7_adds_37 : decode cX7_adds 37 = .ok (.iconst 0, 1) := by decide +kernel
theorem dX7_adds_38 : decode cX7_adds 38 = .ok (.istore_n 2, 1) := by decide +kernel
theorem dX7_adds_39 : decode cX7_adds 39 = .ok (.iconst 0, 1) := by decide +kernel
theorem dX7_adds_40 : decode cX7_adds 40 = .ok (.istore_n 3, 1) := by decide +kernel
theorem dX7_adds_41 : decode cX7_adds 41 = .ok (.iload_n 3, 1) := by decide +kernel
theorem dX7_adds_42 : decode cX7_adds 42 = .ok (.iconst 4, 1) := by decide +kernel
theorem dX7_adds_43 : decode cX7_adds 43 = .ok (.if_icmp .ge 29, 3) := by decide +kernel
theorem dX7_adds_46 : decode cX7_adds 46 = .ok (.iload_n 2, 1) := by decide +kernel
theorem dX7_adds_47 : decode cX7_adds 47 = .ok (.ifCond .eq 25, 3) := by decide +kernel
theorem dX7_adds_50 : decode cX7_adds 50 = .ok (.aload_n 0, 1) := by decide +kernel
theorem dX7_adds_51 : decode cX7_adds 51 = .ok (.getfield 7, 3) := by decide +kernel
theorem dX7_adds_54 : decode cX7_adds 54 = .ok (.iload_n 1, 1) := by decide +kernel
theorem dX7_adds_55 : decode cX7_adds 55 = .ok (.iload_n 3, 1) := by decide +kernel
theorem dX7_adds_56 : decode cX7_adds 56 = .ok (.invokestatic 61, 3) := by decide +kernel
theorem dX7_adds_59 : decode cX7_adds 59 = .ok (.aload_n 0, 1) := by decide +kernel
theorem dX7_adds_60 : decode cX7_adds 60 = .ok (.getfield 32, 3) := by decide +kernel
theorem dX7_adds_63 : decode cX7_adds 63 = .ok (.iload_n 3, 1) := by decide +kernel
theorem dX7_adds_64 : decode cX7_adds 64 = .ok (.iaload, 1) := by decide +kernel
theorem dX7_adds_65 : decode cX7_adds 65 = .ok (.iastore, 1) := by decide +kernel
theorem dX7_adds_66 : decode cX7_adds 66 = .ok (.iinc 3 1, 3) := by decide +kernel
theorem dX7_adds_69 : decode cX7_adds 69 = .ok (.goto (-28), 3) := by decide +kernel
theorem dX7_adds_72 : decode cX7_adds 72 = .ok (.aload_n 0, 1) := by decide +kernel
theorem dX7_adds_73 : decode cX7_adds 73 = .ok (.getfield 7, 3) := by decide +kernel
theorem dX7_adds_76 : decode cX7_adds 76 = .ok (.iconst 0, 1) := by decide +kernel
theorem dX7_adds_77 : decode cX7_adds 77 = .ok (.dup2, 1) := by decide +kernel
theorem dX7_adds_78 : decode cX7_adds 78 = .ok (.iaload, 1) := by decide +kernel
theorem dX7_adds_79 : decode cX7_adds 79 = .ok (.iload_n 2, 1) := by decide +kernel
theorem dX7_adds_80 : decode cX7_adds 80 = .ok (.ifCond .eq 7, 3) := by decide +kernel
theorem dX7_adds_83 : decode cX7_adds 83 = .ok (.iconst 1, 1) := by decide +kernel
theorem dX7_adds_84 : decode cX7_adds 84 = .ok (.goto 4, 3) := by decide +kernel
theorem dX7_adds_87 : decode cX7_adds 87 = .ok (.iconst 0, 1) := by decide +kernel
theorem dX7_adds_88 : decode cX7_adds 88 = .ok (.iadd, 1) := by decide +kernel
theorem dX7_adds_89 : decode cX7_adds 89 = .ok (.iastore, 1) := by decide +kernel
theorem dX7_adds_90 : decode cX7_adds 90 = .ok (.iload_n 2, 1) := by decide +kernel
theorem dX7_adds_91 : decode cX7_adds 91 = .ok (.ireturn, 1) := by decide +kernel
theorem dX7_go_0 : decode cX7_go 0 = .ok (.aload_n 0, 1) := by decide +kernel
theorem dX7_go_1 : decode cX7_go 1 = .ok (.iconst 0, 1) := by decide +kernel
theorem dX7_go_2 : decode cX7_go 2 = .ok (.putfield 84, 3) := by decide +kernel
theorem dX7_go_5 : decode cX7_go 5 = .ok (.aload_n 0, 1) := by decide +kernel
theorem dX7_go_6 : decode cX7_go 6 = .ok (.iconst 0, 1) := by decide +kernel
theorem dX7_go_7 : decode cX7_go 7 = .ok (.putfield 87, 3) := by decide +kernel
theorem dX7_go_10 : decode cX7_go 10 = .ok (.iconst 0, 1) := by decide +kernel
theorem dX7_go_11 : decode cX7_go 11 = .ok (.istore_n 2, 1) := by decide +kernel
theorem dX7_go_12 : decode cX7_go 12 = .ok (.iconst 1, 1) := by decide +kernel
theorem dX7_go_13 : decode cX7_go 13 = .ok (.istore_n 3, 1) := by decide +kernel
theorem dX7_go_14 : decode cX7_go 14 = .ok (.iload_n 3, 1) := by decide +kernel
theorem dX7_go_15 : decode cX7_go 15 = .ok (.ifCond .eq 101, 3) := by decide +kernel
theorem dX7_go_18 : decode cX7_go 18 = .ok (.aload_n 0, 1) := by decide +kernel
theorem dX7_go_19 : decode cX7_go 19 = .ok (.invokevirtual 100, 3) := by decide +kernel
theorem dX7_go_22 : decode cX7_go 22 = .ok (.iload_n 1, 1) := by decide +kernel
theorem dX7_go_23 : decode cX7_go 23 = .ok (.ifCond .eq 14, 3) := by decide +kernel
theorem dX7_go_26 : decode cX7_go 26 = .ok (.aload_n 0, 1) := by decide +kernel
theorem dX7_go_27 : decode cX7_go 27 = .ok (.invokevirtual 103, 3) := by decide +kernel
theorem dX7_go_30 : decode cX7_go 30 = .ok (.ifCond .eq 7, 3) := by decide +kernel
theorem dX7_go_33 : decode cX7_go 33 = .ok (.iconst 1, 1) := by decide +kernel
theorem dX7_go_34 : decode cX7_go 34 = .ok (.goto 4, 3) := by decide +kernel
theorem dX7_go_37 : decode cX7_go 37 = .ok (.iconst 0, 1) := by decide +kernel
theorem dX7_go_38 : decode cX7_go 38 = .ok (.istore 4, 2) := by decide +kernel
theorem dX7_go_40 : decode cX7_go 40 = .ok (.iload_n 2, 1) := by decide +kernel
theorem dX7_go_41 : decode cX7_go 41 = .ok (.iload 4, 2) := by decide +kernel
theorem dX7_go_43 : decode cX7_go 43 = .ok (.ifCond .eq 7, 3) := by decide +kernel
theorem dX7_go_46 : decode cX7_go 46 = .ok (.iconst 1, 1) := by decide +kernel
theorem dX7_go_47 : decode cX7_go 47 = .ok (.goto 4, 3) := by decide +kernel
theorem dX7_go_50 : decode cX7_go 50 = .ok (.iconst 0, 1) := by decide +kernel
theorem dX7_go_51 : decode cX7_go 51 = .ok (.iadd, 1) := by decide +kernel
theorem dX7_go_52 : decode cX7_go 52 = .ok (.istore_n 2, 1) := by decide +kernel
theorem dX7_go_53 : decode cX7_go 53 = .ok (.aload_n 0, 1) := by decide +kernel
theorem dX7_go_54 : decode cX7_go 54 = .ok (.getfield 87, 3) := by decide +kernel
theorem dX7_go_57 : decode cX7_go 57 = .ok (.ifCond .ne 27, 3) := by decide +kernel
theorem dX7_go_60 : decode cX7_go 60 = .ok (.iload 4, 2) := by decide +kernel
theorem dX7_go_62 : decode cX7_go 62 = .ok (.ifCond .ne 7, 3) := by decide +kernel
theorem dX7_go_65 : decode cX7_go 65 = .ok (.iload_n 1, 1) := by decide +kernel
theorem dX7_go_66 : decode cX7_go 66 = .ok (.ifCond .ne 18, 3) := by decide +kernel
theorem dX7_go_69 : decode cX7_go 69 = .ok (.aload_n 0, 1) := by decide +kernel
theorem dX7_go_70 : decode cX7_go 70 = .ok (.getfield 84, 3) := by decide +kernel
theorem dX7_go_73 : decode cX7_go 73 = .ok (.aload_n 0, 1) := by decide +kernel
theorem dX7_go_74 : decode cX7_go 74 = .ok (.getfield 77, 3) := by decide +kernel
theorem dX7_go_77 : decode cX7_go 77 = .ok (.if_icmp .ge 7, 3) := by decide +kernel
theorem dX7_go_80 : decode cX7_go 80 = .ok (.iconst 1, 1) := by decide +kernel
theorem dX7_go_81 : decode cX7_go 81 = .ok (.goto 4, 3) := by decide +kernel
theorem dX7_go_84 : decode cX7_go 84 = .ok (.iconst 0, 1) := by decide +kernel
theorem dX7_go_85 : decode cX7_go 85 = .ok (.istore_n 3, 1) := by decide +kernel
theorem dX7_go_86 : decode cX7_go 86 = .ok (.iload_n 3, 1) := by decide +kernel
theorem dX7_go_87 : decode cX7_go 87 = .ok (.ifCond .eq 26, 3) := by decide +kernel
theorem dX7_go_90 : decode cX7_go 90 = .ok (.aload_n 0, 1) := by decide +kernel
theorem dX7_go_91 : decode cX7_go 91 = .ok (.bipush 59, 2) := by decide +kernel
theorem dX7_go_93 : decode cX7_go 93 = .ok (.bipush 59, 2) := by decide +kernel
theorem dX7_go_95 : decode cX7_go 95 = .ok (.invokevirtual 91, 3) := by decide +kernel
theorem dX7_go_98 : decode cX7_go 98 = .ok (.istore 5, 2) := by decide +kernel
theorem dX7_go_100 : decode cX7_go 100 = .ok (.aload_n 0, 1) := by decide +kernel
theorem dX7_go_101 : decode cX7_go 101 = .ok (.getfield 87, 3) := by decide +kernel
theorem dX7_go_104 : decode cX7_go 104 = .ok (.ifCond .ne 7, 3) := by decide +kernel
theorem dX7_go_107 : decode cX7_go 107 = .ok (.iconst 1, 1) := by decide +kernel
theorem dX7_go_108 : decode cX7_go 108 = .ok (.goto 4, 3) := by decide +kernel
theorem dX7_go_111 : decode cX7_go 111 = .ok (.iconst 0, 1) := by decide +kernel
theorem dX7_go_112 : decode cX7_go 112 = .ok (.istore_n 3, 1) := by decide +kernel
theorem dX7_go_113 : decode cX7_go 113 = .ok (.goto (-99), 3) := by decide +kernel
theorem dX7_go_116 : decode cX7_go 116 = .ok (.iload_n 2, 1) := by decide +kernel
theorem dX7_go_117 : decode cX7_go 117 = .ok (.ireturn, 1) := by decide +kernel
theorem dX7_firstError_0 : decode cX7_firstError 0 = .ok (.aload_n 0, 1) := by decide +kernel
theorem dX7_firstError_1 : decode cX7_firstError 1 = .ok (.iconst 0, 1) := by decide +kernel
theorem dX7_firstError_2 : decode cX7_firstError 2 = .ok (.putfield 38, 3) := by decide +kernel
theorem dX7_firstError_5 : decode cX7_firstError 5 = .ok (.aload_n 0, 1) := by decide +kernel
theorem dX7_firstError_6 : decode cX7_firstError 6 = .ok (.iconst 0, 1) := by decide +kernel
theorem dX7_firstError_7 : decode cX7_firstError 7 = .ok (.invokevirtual 107, 3) := by decide +kernel
theorem dX7_firstError_10 : decode cX7_firstError 10 = .ok (.istore_n 1, 1) := by decide +kernel
theorem dX7_firstError_11 : decode cX7_firstError 11 = .ok (.aload_n 0, 1) := by decide +kernel
theorem dX7_firstError_12 : decode cX7_firstError 12 = .ok (.getfield 87, 3) := by decide +kernel
theorem dX7_firstError_15 : decode cX7_firstError 15 = .ok (.ifCond .eq 10, 3) := by decide +kernel
theorem dX7_firstError_18 : decode cX7_firstError 18 = .ok (.aload_n 0, 1) := by decide +kernel
theorem dX7_firstError_19 : decode cX7_firstError 19 = .ok (.getfield 84, 3) := by decide +kernel
theorem dX7_firstError_22 : decode cX7_firstError 22 = .ok (.goto 7, 3) := by decide +kernel
theorem dX7_firstError_25 : decode cX7_firstError 25 = .ok (.aload_n 0, 1) := by decide +kernel
theorem dX7_firstError_26 : decode cX7_firstError 26 = .ok (.getfield 77, 3) := by decide +kernel
theorem dX7_firstError_29 : decode cX7_firstError 29 = .ok (.ireturn, 1) := by decide +kernel
theorem dX7_proclaim_0 : decode cX7_proclaim 0 = .ok (.aload_n 0, 1) := by decide +kernel
theorem dX7_proclaim_1 : decode cX7_proclaim 1 = .ok (.iconst 0, 1) := by decide +kernel
theorem dX7_proclaim_2 : decode cX7_proclaim 2 = .ok (.invokevirtual 107, 3) := by decide +kernel
theorem dX7_proclaim_5 : decode cX7_proclaim 5 = .ok (.istore_n 1, 1) := by decide +kernel
theorem dX7_proclaim_6 : decode cX7_proclaim 6 = .ok (.aload_n 0, 1) := by decide +kernel
theorem dX7_proclaim_7 : decode cX7_proclaim 7 = .ok (.aload_n 0, 1) := by decide +kernel
theorem dX7_proclaim_8 : decode cX7_proclaim 8 = .ok (.getfield 87, 3) := by decide +kernel
theorem dX7_proclaim_11 : decode cX7_proclaim 11 = .ok (.ifCond .eq 7, 3) := by decide +kernel
theorem dX7_proclaim_14 : decode cX7_proclaim 14 = .ok (.iconst 1, 1) := by decide +kernel
theorem dX7_proclaim_15 : decode cX7_proclaim 15 = .ok (.goto 4, 3) := by decide +kernel
theorem dX7_proclaim_18 : decode cX7_proclaim 18 = .ok (.iconst 0, 1) := by decide +kernel
theorem dX7_proclaim_19 : decode cX7_proclaim 19 = .ok (.invokevirtual 80, 3) := by decide +kernel
theorem dX7_proclaim_22 : decode cX7_proclaim 22 = .ok (.ifCond .ne 5, 3) := by decide +kernel
theorem dX7_proclaim_25 : decode cX7_proclaim 25 = .ok (.iconst 0, 1) := by decide +kernel
theorem dX7_proclaim_26 : decode cX7_proclaim 26 = .ok (.ireturn, 1) := by decide +kernel
theorem dX7_proclaim_27 : decode cX7_proclaim 27 = .ok (.aload_n 0, 1) := by decide +kernel
theorem dX7_proclaim_28 : decode cX7_proclaim 28 = .ok (.invokevirtual 111, 3) := by decide +kernel
theorem dX7_proclaim_31 : decode cX7_proclaim 31 = .ok (.aload_n 0, 1) := by decide +kernel
theorem dX7_proclaim_32 : decode cX7_proclaim 32 = .ok (.iconst 1, 1) := by decide +kernel
theorem dX7_proclaim_33 : decode cX7_proclaim 33 = .ok (.invokevirtual 107, 3) := by decide +kernel
theorem dX7_proclaim_36 : decode cX7_proclaim 36 = .ok (.istore_n 2, 1) := by decide +kernel
theorem dX7_proclaim_37 : decode cX7_proclaim 37 = .ok (.aload_n 0, 1) := by decide +kernel
theorem dX7_proclaim_38 : decode cX7_proclaim 38 = .ok (.iconst 0, 1) := by decide +kernel
theorem dX7_proclaim_39 : decode cX7_proclaim 39 = .ok (.putfield 77, 3) := by decide +kernel
theorem dX7_proclaim_42 : decode cX7_proclaim 42 = .ok (.iload_n 2, 1) := by decide +kernel
theorem dX7_proclaim_43 : decode cX7_proclaim 43 = .ok (.ireturn, 1) := by decide +kernel
theorem dX7_forget_0 : decode cX7_forget 0 = .ok (.aload_n 0, 1) := by decide +kernel
theorem dX7_forget_1 : decode cX7_forget 1 = .ok (.aload_n 0, 1) := by decide +kernel
theorem dX7_forget_2 : decode cX7_forget 2 = .ok (.getfield 7, 3) := by decide +kernel
theorem dX7_forget_5 : decode cX7_forget 5 = .ok (.iconst 0, 1) := by decide +kernel
theorem dX7_forget_6 : decode cX7_forget 6 = .ok (.iaload, 1) := by decide +kernel
theorem dX7_forget_7 : decode cX7_forget 7 = .ok (.ifCond .ne 7, 3) := by decide +kernel
theorem dX7_forget_10 : decode cX7_forget 10 = .ok (.iconst 1, 1) := by decide +kernel
theorem dX7_forget_11 : decode cX7_forget 11 = .ok (.goto 4, 3) := by decide +kernel
theorem dX7_forget_14 : decode cX7_forget 14 = .ok (.iconst 0, 1) := by decide +kernel
theorem dX7_forget_15 : decode cX7_forget 15 = .ok (.invokevirtual 80, 3) := by decide +kernel
theorem dX7_forget_18 : decode cX7_forget 18 = .ok (.ifCond .ne 5, 3) := by decide +kernel
theorem dX7_forget_21 : decode cX7_forget 21 = .ok (.iconst 0, 1) := by decide +kernel
theorem dX7_forget_22 : decode cX7_forget 22 = .ok (.ireturn, 1) := by decide +kernel
theorem dX7_forget_23 : decode cX7_forget 23 = .ok (.aload_n 0, 1) := by decide +kernel
theorem dX7_forget_24 : decode cX7_forget 24 = .ok (.invokevirtual 111, 3) := by decide +kernel
theorem dX7_forget_27 : decode cX7_forget 27 = .ok (.aload_n 0, 1) := by decide +kernel
theorem dX7_forget_28 : decode cX7_forget 28 = .ok (.getfield 7, 3) := by decide +kernel
theorem dX7_forget_31 : decode cX7_forget 31 = .ok (.iconst 0, 1) := by decide +kernel
theorem dX7_forget_32 : decode cX7_forget 32 = .ok (.dup2, 1) := by decide +kernel
theorem dX7_forget_33 : decode cX7_forget 33 = .ok (.iaload, 1) := by decide +kernel
theorem dX7_forget_34 : decode cX7_forget 34 = .ok (.iconst 1, 1) := by decide +kernel
theorem dX7_forget_35 : decode cX7_forget 35 = .ok (.isub, 1) := by decide +kernel
theorem dX7_forget_36 : decode cX7_forget 36 = .ok (.iastore, 1) := by decide +kernel
theorem dX7_forget_37 : decode cX7_forget 37 = .ok (.aload_n 0, 1) := by decide +kernel
theorem dX7_forget_38 : decode cX7_forget 38 = .ok (.getfield 7, 3) := by decide +kernel
theorem dX7_forget_41 : decode cX7_forget 41 = .ok (.iconst 0, 1) := by decide +kernel
theorem dX7_forget_42 : decode cX7_forget 42 = .ok (.iaload, 1) := by decide +kernel
theorem dX7_forget_43 : decode cX7_forget 43 = .ok (.ireturn, 1) := by decide +kernel
theorem dX7_puts_0 : decode cX7_puts 0 = .ok (.aload_n 0, 1) := by decide +kernel
theorem dX7_puts_1 : decode cX7_puts 1 = .ok (.invokevirtual 111, 3) := by decide +kernel
theorem dX7_puts_4 : decode cX7_puts 4 = .ok (.aload_n 0, 1) := by decide +kernel
theorem dX7_puts_5 : decode cX7_puts 5 = .ok (.getfield 7, 3) := by decide +kernel
theorem dX7_puts_8 : decode cX7_puts 8 = .ok (.iload_n 1, 1) := by decide +kernel
theorem dX7_puts_9 : decode cX7_puts 9 = .ok (.iaload, 1) := by decide +kernel
theorem dX7_puts_10 : decode cX7_puts 10 = .ok (.istore_n 3, 1) := by decide +kernel
theorem dX7_puts_11 : decode cX7_puts 11 = .ok (.aload_n 0, 1) := by decide +kernel
theorem dX7_puts_12 : decode cX7_puts 12 = .ok (.getfield 7, 3) := by decide +kernel
theorem dX7_puts_15 : decode cX7_puts 15 = .ok (.iload_n 1, 1) := by decide +kernel
theorem dX7_puts_16 : decode cX7_puts 16 = .ok (.iload_n 2, 1) := by decide +kernel
theorem dX7_puts_17 : decode cX7_puts 17 = .ok (.iastore, 1) := by decide +kernel
theorem dX7_puts_18 : decode cX7_puts 18 = .ok (.iload_n 3, 1) := by decide +kernel
theorem dX7_puts_19 : decode cX7_puts 19 = .ok (.ireturn, 1) := by decide +kernel
theorem dX7_rank_0 : decode cX7_rank 0 = .ok (.aload_n 0, 1) := by decide +kernel
theorem dX7_rank_1 : decode cX7_rank 1 = .ok (.aload_n 0, 1) := by decide +kernel
theorem dX7_rank_2 : decode cX7_rank 2 = .ok (.iload_n 1, 1) := by decide +kernel
theorem dX7_rank_3 : decode cX7_rank 3 = .ok (.invokevirtual 114, 3) := by decide +kernel
theorem dX7_rank_6 : decode cX7_rank 6 = .ok (.ifCond .ne 7, 3) := by decide +kernel
theorem dX7_rank_9 : decode cX7_rank 9 = .ok (.iconst 1, 1) := by decide +kernel
theorem dX7_rank_10 : decode cX7_rank 10 = .ok (.goto 18, 3) := by decide +kernel
theorem dX7_rank_13 : decode cX7_rank 13 = .ok (.iload_n 2, 1) := by decide +kernel
theorem dX7_rank_14 : decode cX7_rank 14 = .ok (.iconst 0, 1) := by decide +kernel
theorem dX7_rank_15 : decode cX7_rank 15 = .ok (.bipush 9, 2) := by decide +kernel
theorem dX7_rank_17 : decode cX7_rank 17 = .ok (.invokestatic 42, 3) := by decide +kernel
theorem dX7_rank_20 : decode cX7_rank 20 = .ok (.ifCond .ne 7, 3) := by decide +kernel
theorem dX7_rank_23 : decode cX7_rank 23 = .ok (.iconst 2, 1) := by decide +kernel
theorem dX7_rank_24 : decode cX7_rank 24 = .ok (.goto 4, 3) := by decide +kernel
theorem dX7_rank_27 : decode cX7_rank 27 = .ok (.iconst 0, 1) := by decide +kernel
theorem dX7_rank_28 : decode cX7_rank 28 = .ok (.invokevirtual 80, 3) := by decide +kernel
theorem dX7_rank_31 : decode cX7_rank 31 = .ok (.ifCond .eq 16, 3) := by decide +kernel
theorem dX7_rank_34 : decode cX7_rank 34 = .ok (.aload_n 0, 1) := by decide +kernel
theorem dX7_rank_35 : decode cX7_rank 35 = .ok (.iload_n 1, 1) := by decide +kernel
theorem dX7_rank_36 : decode cX7_rank 36 = .ok (.iconst 1, 1) := by decide +kernel
theorem dX7_rank_37 : decode cX7_rank 37 = .ok (.invokestatic 61, 3) := by decide +kernel
theorem dX7_rank_40 : decode cX7_rank 40 = .ok (.iload_n 2, 1) := by decide +kernel
theorem dX7_rank_41 : decode cX7_rank 41 = .ok (.invokevirtual 117, 3) := by decide +kernel
theorem dX7_rank_44 : decode cX7_rank 44 = .ok (.goto 4, 3) := by decide +kernel
theorem dX7_rank_47 : decode cX7_rank 47 = .ok (.iconst 0, 1) := by decide +kernel
theorem dX7_rank_48 : decode cX7_rank 48 = .ok (.ireturn, 1) := by decide +kernel
theorem dX7_teach_0 : decode cX7_teach 0 = .ok (.aload_n 0, 1) := by decide +kernel
theorem dX7_teach_1 : decode cX7_teach 1 = .ok (.iload_n 1, 1) := by decide +kernel
theorem dX7_teach_2 : decode cX7_teach 2 = .ok (.invokestatic 120, 3) := by decide +kernel
theorem dX7_teach_5 : decode cX7_teach 5 = .ok (.ifCond .eq 17, 3) := by decide +kernel
theorem dX7_teach_8 : decode cX7_teach 8 = .ok (.iload_n 2, 1) := by decide +kernel
theorem dX7_teach_9 : decode cX7_teach 9 = .ok (.bipush (-5), 2) := by decide +kernel
theorem dX7_teach_11 : decode cX7_teach 11 = .ok (.iconst 5, 1) := by decide +kernel
theorem dX7_teach_12 : decode cX7_teach 12 = .ok (.invokestatic 42, 3) := by decide +kernel
theorem dX7_teach_15 : decode cX7_teach 15 = .ok (.ifCond .eq 7, 3) := by decide +kernel
theorem dX7_teach_18 : decode cX7_teach 18 = .ok (.iconst 0, 1) := by decide +kernel
theorem dX7_teach_19 : decode cX7_teach 19 = .ok (.goto 4, 3) := by decide +kernel
theorem dX7_teach_22 : decode cX7_teach 22 = .ok (.iconst 1, 1) := by decide +kernel
theorem dX7_teach_23 : decode cX7_teach 23 = .ok (.invokevirtual 80, 3) := by decide +kernel
theorem dX7_teach_26 : decode cX7_teach 26 = .ok (.ifCond .eq 17, 3) := by decide +kernel
theorem dX7_teach_29 : decode cX7_teach 29 = .ok (.aload_n 0, 1) := by decide +kernel
theorem dX7_teach_30 : decode cX7_teach 30 = .ok (.bipush 41, 2) := by decide +kernel
theorem dX7_teach_32 : decode cX7_teach 32 = .ok (.iload_n 1, 1) := by decide +kernel
theorem dX7_teach_33 : decode cX7_teach 33 = .ok (.iadd, 1) := by decide +kernel
theorem dX7_teach_34 : decode cX7_teach 34 = .ok (.iload_n 2, 1) := by decide +kernel
theorem dX7_teach_35 : decode cX7_teach 35 = .ok (.invokevirtual 117, 3) := by decide +kernel
theorem dX7_teach_38 : decode cX7_teach 38 = .ok (.iconst 5, 1) := by decide +kernel
theorem dX7_teach_39 : decode cX7_teach 39 = .ok (.iadd, 1) := by decide +kernel
theorem dX7_teach_40 : decode cX7_teach 40 = .ok (.goto 4, 3) := by decide +kernel
theorem dX7_teach_43 : decode cX7_teach 43 = .ok (.iconst 0, 1) := by decide +kernel
theorem dX7_teach_44 : decode cX7_teach 44 = .ok (.ireturn, 1) := by decide +kernel
theorem dX7_set_0 : decode cX7_set 0 = .ok (.aload_n 0, 1) := by decide +kernel
theorem dX7_set_1 : decode cX7_set 1 = .ok (.iload_n 1, 1) := by decide +kernel
theorem dX7_set_2 : decode cX7_set 2 = .ok (.bipush 50, 2) := by decide +kernel
theorem dX7_set_4 : decode cX7_set 4 = .ok (.sipush 400, 3) := by decide +kernel
theorem dX7_set_7 : decode cX7_set 7 = .ok (.invokestatic 42, 3) := by decide +kernel
theorem dX7_set_10 : decode cX7_set 10 = .ok (.ifCond .eq 7, 3) := by decide +kernel
theorem dX7_set_13 : decode cX7_set 13 = .ok (.iconst 0, 1) := by decide +kernel
theorem dX7_set_14 : decode cX7_set 14 = .ok (.goto 4, 3) := by decide +kernel
theorem dX7_set_17 : decode cX7_set 17 = .ok (.iconst 1, 1) := by decide +kernel
theorem dX7_set_18 : decode cX7_set 18 = .ok (.invokevirtual 80, 3) := by decide +kernel
theorem dX7_set_21 : decode cX7_set 21 = .ok (.ifCond .eq 13, 3) := by decide +kernel
theorem dX7_set_24 : decode cX7_set 24 = .ok (.aload_n 0, 1) := by decide +kernel
theorem dX7_set_25 : decode cX7_set 25 = .ok (.bipush 44, 2) := by decide +kernel
theorem dX7_set_27 : decode cX7_set 27 = .ok (.iload_n 1, 1) := by decide +kernel
theorem dX7_set_28 : decode cX7_set 28 = .ok (.invokevirtual 117, 3) := by decide +kernel
theorem dX7_set_31 : decode cX7_set 31 = .ok (.goto 4, 3) := by decide +kernel
theorem dX7_set_34 : decode cX7_set 34 = .ok (.iconst 0, 1) := by decide +kernel
theorem dX7_set_35 : decode cX7_set 35 = .ok (.ireturn, 1) := by decide +kernel
theorem dX7_carve_0 : decode cX7_carve 0 = .ok (.aload_n 0, 1) := by decide +kernel
theorem dX7_carve_1 : decode cX7_carve 1 = .ok (.iload_n 1, 1) := by decide +kernel
theorem dX7_carve_2 : decode cX7_carve 2 = .ok (.invokestatic 123, 3) := by decide +kernel
theorem dX7_carve_5 : decode cX7_carve 5 = .ok (.ifCond .eq 14, 3) := by decide +kernel
theorem dX7_carve_8 : decode cX7_carve 8 = .ok (.iload_n 2, 1) := by decide +kernel
theorem dX7_carve_9 : decode cX7_carve 9 = .ok (.invokestatic 120, 3) := by decide +kernel
theorem dX7_carve_12 : decode cX7_carve 12 = .ok (.ifCond .eq 7, 3) := by decide +kernel
theorem dX7_carve_15 : decode cX7_carve 15 = .ok (.iconst 0, 1) := by decide +kernel
theorem dX7_carve_16 : decode cX7_carve 16 = .ok (.goto 4, 3) := by decide +kernel
theorem dX7_carve_19 : decode cX7_carve 19 = .ok (.iconst 1, 1) := by decide +kernel
theorem dX7_carve_20 : decode cX7_carve 20 = .ok (.invokevirtual 80, 3) := by decide +kernel
theorem dX7_carve_23 : decode cX7_carve 23 = .ok (.ifCond .ne 5, 3) := by decide +kernel
theorem dX7_carve_26 : decode cX7_carve 26 = .ok (.iconst 0, 1) := by decide +kernel
theorem dX7_carve_27 : decode cX7_carve 27 = .ok (.ireturn, 1) := by decide +kernel
theorem dX7_carve_28 : decode cX7_carve 28 = .ok (.aload_n 0, 1) := by decide +kernel
theorem dX7_carve_29 : decode cX7_carve 29 = .ok (.invokevirtual 111, 3) := by decide +kernel
theorem dX7_carve_32 : decode cX7_carve 32 = .ok (.bipush 64, 2) := by decide +kernel
theorem dX7_carve_34 : decode cX7_carve 34 = .ok (.istore_n 3, 1) := by decide +kernel
theorem dX7_carve_35 : decode cX7_carve 35 = .ok (.iload_n 3, 1) := by decide +kernel
theorem dX7_carve_36 : decode cX7_carve 36 = .ok (.bipush 13, 2) := by decide +kernel
theorem dX7_carve_38 : decode cX7_carve 38 = .ok (.if_icmp .lt 30, 3) := by decide +kernel
theorem dX7_carve_41 : decode cX7_carve 41 = .ok (.aload_n 0, 1) := by decide +kernel
theorem dX7_carve_42 : decode cX7_carve 42 = .ok (.getfield 7, 3) := by decide +kernel
theorem dX7_carve_45 : decode cX7_carve 45 = .ok (.bipush 46, 2) := by decide +kernel
theorem dX7_carve_47 : decode cX7_carve 47 = .ok (.iload_n 3, 1) := by decide +kernel
theorem dX7_carve_48 : decode cX7_carve 48 = .ok (.iadd, 1) := by decide +kernel
theorem dX7_carve_49 : decode cX7_carve 49 = .ok (.aload_n 0, 1) := by decide +kernel
theorem dX7_carve_50 : decode cX7_carve 50 = .ok (.getfield 7, 3) := by decide +kernel
theorem dX7_carve_53 : decode cX7_carve 53 = .ok (.bipush 46, 2) := by decide +kernel
theorem dX7_carve_55 : decode cX7_carve 55 = .ok (.iload_n 3, 1) := by decide +kernel
theorem dX7_carve_56 : decode cX7_carve 56 = .ok (.iadd, 1) := by decide +kernel
theorem dX7_carve_57 : decode cX7_carve 57 = .ok (.bipush 13, 2) := by decide +kernel
theorem dX7_carve_59 : decode cX7_carve 59 = .ok (.isub, 1) := by decide +kernel
theorem dX7_carve_60 : decode cX7_carve 60 = .ok (.iaload, 1) := by decide +kernel
theorem dX7_carve_61 : decode cX7_carve 61 = .ok (.iastore, 1) := by decide +kernel
theorem dX7_carve_62 : decode cX7_carve 62 = .ok (.iinc 3 (-1), 3) := by decide +kernel
theorem dX7_carve_65 : decode cX7_carve 65 = .ok (.goto (-30), 3) := by decide +kernel
theorem dX7_carve_68 : decode cX7_carve 68 = .ok (.aload_n 0, 1) := by decide +kernel
theorem dX7_carve_69 : decode cX7_carve 69 = .ok (.getfield 7, 3) := by decide +kernel
theorem dX7_carve_72 : decode cX7_carve 72 = .ok (.bipush 45, 2) := by decide +kernel
theorem dX7_carve_74 : decode cX7_carve 74 = .ok (.dup2, 1) := by decide +kernel
theorem dX7_carve_75 : decode cX7_carve 75 = .ok (.iaload, 1) := by decide +kernel
theorem dX7_carve_76 : decode cX7_carve 76 = .ok (.aload_n 0, 1) := by decide +kernel
theorem dX7_carve_77 : decode cX7_carve 77 = .ok (.getfield 7, 3) := by decide +kernel
theorem dX7_carve_80 : decode cX7_carve 80 = .ok (.bipush 45, 2) := by decide +kernel
theorem dX7_carve_82 : decode cX7_carve 82 = .ok (.iaload, 1) := by decide +kernel
theorem dX7_carve_83 : decode cX7_carve 83 = .ok (.iconst 5, 1) := by decide +kernel
theorem dX7_carve_84 : decode cX7_carve 84 = .ok (.if_icmp .ge 7, 3) := by decide +kernel
theorem dX7_carve_87 : decode cX7_carve 87 = .ok (.iconst 1, 1) := by decide +kernel
theorem dX7_carve_88 : decode cX7_carve 88 = .ok (.goto 4, 3) := by decide +kernel
theorem dX7_carve_91 : decode cX7_carve 91 = .ok (.iconst 0, 1) := by decide +kernel
theorem dX7_carve_92 : decode cX7_carve 92 = .ok (.iadd, 1) := by decide +kernel
theorem dX7_carve_93 : decode cX7_carve 93 = .ok (.iastore, 1) := by decide +kernel
theorem dX7_carve_94 : decode cX7_carve 94 = .ok (.aload_n 0, 1) := by decide +kernel
theorem dX7_carve_95 : decode cX7_carve 95 = .ok (.iload_n 1, 1) := by decide +kernel
theorem dX7_carve_96 : decode cX7_carve 96 = .ok (.aload_n 0, 1) := by decide +kernel
theorem dX7_carve_97 : decode cX7_carve 97 = .ok (.getfield 7, 3) := by decide +kernel
theorem dX7_carve_100 : decode cX7_carve 100 = .ok (.bipush 41, 2) := by decide +kernel
theorem dX7_carve_102 : decode cX7_carve 102 = .ok (.iload_n 2, 1) := by decide +kernel
theorem dX7_carve_103 : decode cX7_carve 103 = .ok (.iadd, 1) := by decide +kernel
theorem dX7_carve_104 : decode cX7_carve 104 = .ok (.iaload, 1) := by decide +kernel
theorem dX7_carve_105 : decode cX7_carve 105 = .ok (.invokevirtual 74, 3) := by decide +kernel
theorem dX7_carve_108 : decode cX7_carve 108 = .ok (.aload_n 0, 1) := by decide +kernel
theorem dX7_carve_109 : decode cX7_carve 109 = .ok (.getfield 7, 3) := by decide +kernel
theorem dX7_carve_112 : decode cX7_carve 112 = .ok (.bipush 46, 2) := by decide +kernel
theorem dX7_carve_114 : decode cX7_carve 114 = .ok (.iload_n 1, 1) := by decide +kernel
theorem dX7_carve_115 : decode cX7_carve 115 = .ok (.iastore, 1) := by decide +kernel
theorem dX7_carve_116 : decode cX7_carve 116 = .ok (.aload_n 0, 1) := by decide +kernel
theorem dX7_carve_117 : decode cX7_carve 117 = .ok (.getfield 7, 3) := by decide +kernel
theorem dX7_carve_120 : decode cX7_carve 120 = .ok (.bipush 47, 2) := by decide +kernel
theorem dX7_carve_122 : decode cX7_carve 122 = .ok (.iload_n 2, 1) := by decide +kernel
theorem dX7_carve_123 : decode cX7_carve 123 = .ok (.iastore, 1) := by decide +kernel
theorem dX7_carve_124 : decode cX7_carve 124 = .ok (.aload_n 0, 1) := by decide +kernel
theorem dX7_carve_125 : decode cX7_carve 125 = .ok (.getfield 7, 3) := by decide +kernel
theorem dX7_carve_128 : decode cX7_carve 128 = .ok (.bipush 48, 2) := by decide +kernel
theorem dX7_carve_130 : decode cX7_carve 130 = .ok (.aload_n 0, 1) := by decide +kernel
theorem dX7_carve_131 : decode cX7_carve 131 = .ok (.getfield 7, 3) := by decide +kernel
theorem dX7_carve_134 : decode cX7_carve 134 = .ok (.iconst 0, 1) := by decide +kernel
theorem dX7_carve_135 : decode cX7_carve 135 = .ok (.iaload, 1) := by decide +kernel
theorem dX7_carve_136 : decode cX7_carve 136 = .ok (.iastore, 1) := by decide +kernel
theorem dX7_carve_137 : decode cX7_carve 137 = .ok (.iconst 0, 1) := by decide +kernel
theorem dX7_carve_138 : decode cX7_carve 138 = .ok (.istore_n 3, 1) := by decide +kernel
theorem dX7_carve_139 : decode cX7_carve 139 = .ok (.iconst 0, 1) := by decide +kernel
theorem dX7_carve_140 : decode cX7_carve 140 = .ok (.istore 4, 2) := by decide +kernel
theorem dX7_carve_142 : decode cX7_carve 142 = .ok (.iload 4, 2) := by decide +kernel
theorem dX7_carve_144 : decode cX7_carve 144 = .ok (.bipush 10, 2) := by decide +kernel
theorem dX7_carve_146 : decode cX7_carve 146 = .ok (.if_icmp .ge 59, 3) := by decide +kernel
theorem dX7_carve_149 : decode cX7_carve 149 = .ok (.iload 4, 2) := by decide +kernel
theorem dX7_carve_151 : decode cX7_carve 151 = .ok (.aload_n 0, 1) := by decide +kernel
theorem dX7_carve_152 : decode cX7_carve 152 = .ok (.getfield 7, 3) := by decide +kernel
theorem dX7_carve_155 : decode cX7_carve 155 = .ok (.iconst 0, 1) := by decide +kernel
theorem dX7_carve_156 : decode cX7_carve 156 = .ok (.iaload, 1) := by decide +kernel
theorem dX7_carve_157 : decode cX7_carve 157 = .ok (.if_icmp .ge 13, 3) := by decide +kernel
theorem dX7_carve_160 : decode cX7_carve 160 = .ok (.aload_n 0, 1) := by decide +kernel
theorem dX7_carve_161 : decode cX7_carve 161 = .ok (.getfield 22, 3) := by decide +kernel
theorem dX7_carve_164 : decode cX7_carve 164 = .ok (.iload 4, 2) := by decide +kernel
theorem dX7_carve_166 : decode cX7_carve 166 = .ok (.iaload, 1) := by decide +kernel
theorem dX7_carve_167 : decode cX7_carve 167 = .ok (.goto 4, 3) := by decide +kernel
theorem dX7_carve_170 : decode cX7_carve 170 = .ok (.iconst (-1), 1) := by decide +kernel
theorem dX7_carve_171 : decode cX7_carve 171 = .ok (.istore 5, 2) := by decide +kernel
theorem dX7_carve_173 : decode cX7_carve 173 = .ok (.aload_n 0, 1) := by decide +kernel
theorem dX7_carve_174 : decode cX7_carve 174 = .ok (.getfield 7, 3) := by decide +kernel
theorem dX7_carve_177 : decode cX7_carve 177 = .ok (.bipush 49, 2) := by decide +kernel
theorem dX7_carve_179 : decode cX7_carve 179 = .ok (.iload 4, 2) := by decide +kernel
theorem dX7_carve_181 : decode cX7_carve 181 = .ok (.iadd, 1) := by decide +kernel
theorem dX7_carve_182 : decode cX7_carve 182 = .ok (.iload 5, 2) := by decide +kernel
theorem dX7_carve_184 : decode cX7_carve 184 = .ok (.iastore, 1) := by decide +kernel
theorem dX7_carve_185 : decode cX7_carve 185 = .ok (.iload_n 3, 1) := by decide +kernel
theorem dX7_carve_186 : decode cX7_carve 186 = .ok (.iload 5, 2) := by decide +kernel
theorem dX7_carve_188 : decode cX7_carve 188 = .ok (.iconst (-1), 1) := by decide +kernel
theorem dX7_carve_189 : decode cX7_carve 189 = .ok (.if_icmp .ne 7, 3) := by decide +kernel
theorem dX7_carve_192 : decode cX7_carve 192 = .ok (.iconst 0, 1) := by decide +kernel
theorem dX7_carve_193 : decode cX7_carve 193 = .ok (.goto 4, 3) := by decide +kernel
theorem dX7_carve_196 : decode cX7_carve 196 = .ok (.iconst 1, 1) := by decide +kernel
theorem dX7_carve_197 : decode cX7_carve 197 = .ok (.iadd, 1) := by decide +kernel
theorem dX7_carve_198 : decode cX7_carve 198 = .ok (.istore_n 3, 1) := by decide +kernel
theorem dX7_carve_199 : decode cX7_carve 199 = .ok (.iinc 4 1, 3) := by decide +kernel
theorem dX7_carve_202 : decode cX7_carve 202 = .ok (.goto (-60), 3) := by decide +kernel
theorem dX7_carve_205 : decode cX7_carve 205 = .ok (.iload_n 3, 1) := by decide +kernel
theorem dX7_carve_206 : decode cX7_carve 206 = .ok (.ireturn, 1) := by decide +kernel
theorem dX7_isStick_0 : decode cX7_isStick 0 = .ok (.iload_n 1, 1) := by decide +kernel
theorem dX7_isStick_1 : decode cX7_isStick 1 = .ok (.iconst 0, 1) := by decide +kernel
theorem dX7_isStick_2 : decode cX7_isStick 2 = .ok (.aload_n 0, 1) := by decide +kernel
theorem dX7_isStick_3 : decode cX7_isStick 3 = .ok (.getfield 7, 3) := by decide +kernel
theorem dX7_isStick_6 : decode cX7_isStick 6 = .ok (.bipush 45, 2) := by decide +kernel
theorem dX7_isStick_8 : decode cX7_isStick 8 = .ok (.iaload, 1) := by decide +kernel
theorem dX7_isStick_9 : decode cX7_isStick 9 = .ok (.iconst 1, 1) := by decide +kernel
theorem dX7_isStick_10 : decode cX7_isStick 10 = .ok (.isub, 1) := by decide +kernel
theorem dX7_isStick_11 : decode cX7_isStick 11 = .ok (.invokestatic 42, 3) := by decide +kernel
theorem dX7_isStick_14 : decode cX7_isStick 14 = .ok (.ireturn, 1) := by decide +kernel
theorem dX7_burn_0 : decode cX7_burn 0 = .ok (.aload_n 0, 1) := by decide +kernel
theorem dX7_burn_1 : decode cX7_burn 1 = .ok (.aload_n 0, 1) := by decide +kernel
theorem dX7_burn_2 : decode cX7_burn 2 = .ok (.iload_n 1, 1) := by decide +kernel
theorem dX7_burn_3 : decode cX7_burn 3 = .ok (.invokevirtual 126, 3) := by decide +kernel
theorem dX7_burn_6 : decode cX7_burn 6 = .ok (.ifCond .eq 7, 3) := by decide +kernel
theorem dX7_burn_9 : decode cX7_burn 9 = .ok (.iconst 0, 1) := by decide +kernel
theorem dX7_burn_10 : decode cX7_burn 10 = .ok (.goto 4, 3) := by decide +kernel
theorem dX7_burn_13 : decode cX7_burn 13 = .ok (.iconst 1, 1) := by decide +kernel
theorem dX7_burn_14 : decode cX7_burn 14 = .ok (.invokevirtual 80, 3) := by decide +kernel
theorem dX7_burn_17 : decode cX7_burn 17 = .ok (.ifCond .ne 5, 3) := by decide +kernel
theorem dX7_burn_20 : decode cX7_burn 20 = .ok (.iconst 0, 1) := by decide +kernel
theorem dX7_burn_21 : decode cX7_burn 21 = .ok (.ireturn, 1) := by decide +kernel
theorem dX7_burn_22 : decode cX7_burn 22 = .ok (.aload_n 0, 1) := by decide +kernel
theorem dX7_burn_23 : decode cX7_burn 23 = .ok (.invokevirtual 111, 3) := by decide +kernel
theorem dX7_burn_26 : decode cX7_burn 26 = .ok (.aload_n 0, 1) := by decide +kernel
theorem dX7_burn_27 : decode cX7_burn 27 = .ok (.getfield 7, 3) := by decide +kernel
theorem dX7_burn_30 : decode cX7_burn 30 = .ok (.iload_n 1, 1) := by decide +kernel
theorem dX7_burn_31 : decode cX7_burn 31 = .ok (.iconst 0, 1) := by decide +kernel
theorem dX7_burn_32 : decode cX7_burn 32 = .ok (.invokestatic 129, 3) := by decide +kernel
theorem dX7_burn_35 : decode cX7_burn 35 = .ok (.iaload, 1) := by decide +kernel
theorem dX7_burn_36 : decode cX7_burn 36 = .ok (.istore_n 2, 1) := by decide +kernel
theorem dX7_burn_37 : decode cX7_burn 37 = .ok (.aload_n 0, 1) := by decide +kernel
theorem dX7_burn_38 : decode cX7_burn 38 = .ok (.getfield 7, 3) := by decide +kernel
theorem dX7_burn_41 : decode cX7_burn 41 = .ok (.bipush 45, 2) := by decide +kernel
theorem dX7_burn_43 : decode cX7_burn 43 = .ok (.dup2, 1) := by decide +kernel
theorem dX7_burn_44 : decode cX7_burn 44 = .ok (.iaload, 1) := by decide +kernel
theorem dX7_burn_45 : decode cX7_burn 45 = .ok (.iconst 1, 1) := by decide +kernel
theorem dX7_burn_46 : decode cX7_burn 46 = .ok (.isub, 1) := by decide +kernel
theorem dX7_burn_47 : decode cX7_burn 47 = .ok (.iastore, 1) := by decide +kernel
theorem dX7_burn_48 : decode cX7_burn 48 = .ok (.iload_n 1, 1) := by decide +kernel
theorem dX7_burn_49 : decode cX7_burn 49 = .ok (.iconst 0, 1) := by decide +kernel
theorem dX7_burn_50 : decode cX7_burn 50 = .ok (.invokestatic 129, 3) := by decide +kernel
theorem dX7_burn_53 : decode cX7_burn 53 = .ok (.istore_n 3, 1) := by decide +kernel
theorem dX7_burn_54 : decode cX7_burn 54 = .ok (.iload_n 3, 1) := by decide +kernel
theorem dX7_burn_55 : decode cX7_burn 55 = .ok (.aload_n 0, 1) := by decide +kernel
theorem dX7_burn_56 : decode cX7_burn 56 = .ok (.getfield 7, 3) := by decide +kernel
theorem dX7_burn_59 : decode cX7_burn 59 = .ok (.bipush 45, 2) := by decide +kernel
theorem dX7_burn_61 : decode cX7_burn 61 = .ok (.iaload, 1) := by decide +kernel
theorem dX7_burn_62 : decode cX7_burn 62 = .ok (.iconst 0, 1) := by decide +kernel
theorem dX7_burn_63 : decode cX7_burn 63 = .ok (.invokestatic 129, 3) := by decide +kernel
theorem dX7_burn_66 : decode cX7_burn 66 = .ok (.if_icmp .ge 24, 3) := by decide +kernel
theorem dX7_burn_69 : decode cX7_burn 69 = .ok (.aload_n 0, 1) := by decide +kernel
theorem dX7_burn_70 : decode cX7_burn 70 = .ok (.getfield 7, 3) := by decide +kernel
theorem dX7_burn_73 : decode cX7_burn 73 = .ok (.iload_n 3, 1) := by decide +kernel
theorem dX7_burn_74 : decode cX7_burn 74 = .ok (.aload_n 0, 1) := by decide +kernel
theorem dX7_burn_75 : decode cX7_burn 75 = .ok (.getfield 7, 3) := by decide +kernel
theorem dX7_burn_78 : decode cX7_burn 78 = .ok (.iload_n 3, 1) := by decide +kernel
theorem dX7_burn_79 : decode cX7_burn 79 = .ok (.bipush 13, 2) := by decide +kernel
theorem dX7_burn_81 : decode cX7_burn 81 = .ok (.iadd, 1) := by decide +kernel
theorem dX7_burn_82 : decode cX7_burn 82 = .ok (.iaload, 1) := by decide +kernel
theorem dX7_burn_83 : decode cX7_burn 83 = .ok (.iastore, 1) := by decide +kernel
theorem dX7_burn_84 : decode cX7_burn 84 = .ok (.iinc 3 1, 3) := by decide +kernel
theorem dX7_burn_87 : decode cX7_burn 87 = .ok (.goto (-33), 3) := by decide +kernel
theorem dX7_burn_90 : decode cX7_burn 90 = .ok (.iload_n 2, 1) := by decide +kernel
theorem dX7_burn_91 : decode cX7_burn 91 = .ok (.ireturn, 1) := by decide +kernel
theorem dX7_undo_0 : decode cX7_undo 0 = .ok (.aload_n 0, 1) := by decide +kernel
theorem dX7_undo_1 : decode cX7_undo 1 = .ok (.aload_n 0, 1) := by decide +kernel
theorem dX7_undo_2 : decode cX7_undo 2 = .ok (.getfield 46, 3) := by decide +kernel
theorem dX7_undo_5 : decode cX7_undo 5 = .ok (.ifCond .le 7, 3) := by decide +kernel
theorem dX7_undo_8 : decode cX7_undo 8 = .ok (.iconst 0, 1) := by decide +kernel
theorem dX7_undo_9 : decode cX7_undo 9 = .ok (.goto 4, 3) := by decide +kernel
theorem dX7_undo_12 : decode cX7_undo 12 = .ok (.iconst 1, 1) := by decide +kernel
theorem dX7_undo_13 : decode cX7_undo 13 = .ok (.invokevirtual 80, 3) := by decide +kernel
theorem dX7_undo_16 : decode cX7_undo 16 = .ok (.ifCond .ne 5, 3) := by decide +kernel
theorem dX7_undo_19 : decode cX7_undo 19 = .ok (.iconst 0, 1) := by decide +kernel
theorem dX7_undo_20 : decode cX7_undo 20 = .ok (.ireturn, 1) := by decide +kernel
theorem dX7_undo_21 : decode cX7_undo 21 = .ok (.aload_n 0, 1) := by decide +kernel
theorem dX7_undo_22 : decode cX7_undo 22 = .ok (.dup, 1) := by decide +kernel
theorem dX7_undo_23 : decode cX7_undo 23 = .ok (.getfield 46, 3) := by decide +kernel
theorem dX7_undo_26 : decode cX7_undo 26 = .ok (.iconst 1, 1) := by decide +kernel
theorem dX7_undo_27 : decode cX7_undo 27 = .ok (.isub, 1) := by decide +kernel
theorem dX7_undo_28 : decode cX7_undo 28 = .ok (.putfield 46, 3) := by decide +kernel
theorem dX7_undo_31 : decode cX7_undo 31 = .ok (.iconst 0, 1) := by decide +kernel
theorem dX7_undo_32 : decode cX7_undo 32 = .ok (.istore_n 1, 1) := by decide +kernel
theorem dX7_undo_33 : decode cX7_undo 33 = .ok (.iload_n 1, 1) := by decide +kernel
theorem dX7_undo_34 : decode cX7_undo 34 = .ok (.bipush 111, 2) := by decide +kernel
theorem dX7_undo_36 : decode cX7_undo 36 = .ok (.if_icmp .ge 29, 3) := by decide +kernel
theorem dX7_undo_39 : decode cX7_undo 39 = .ok (.aload_n 0, 1) := by decide +kernel
theorem dX7_undo_40 : decode cX7_undo 40 = .ok (.getfield 7, 3) := by decide +kernel
theorem dX7_undo_43 : decode cX7_undo 43 = .ok (.iload_n 1, 1) := by decide +kernel
theorem dX7_undo_44 : decode cX7_undo 44 = .ok (.aload_n 0, 1) := by decide +kernel
theorem dX7_undo_45 : decode cX7_undo 45 = .ok (.getfield 13, 3) := by decide +kernel
theorem dX7_undo_48 : decode cX7_undo 48 = .ok (.bipush 111, 2) := by decide +kernel
theorem dX7_undo_50 : decode cX7_undo 50 = .ok (.aload_n 0, 1) := by decide +kernel
theorem dX7_undo_51 : decode cX7_undo 51 = .ok (.getfield 46, 3) := by decide +kernel
theorem dX7_undo_54 : decode cX7_undo 54 = .ok (.imul, 1) := by decide +kernel
theorem dX7_undo_55 : decode cX7_undo 55 = .ok (.iload_n 1, 1) := by decide +kernel
theorem dX7_undo_56 : decode cX7_undo 56 = .ok (.iadd, 1) := by decide +kernel
theorem dX7_undo_57 : decode cX7_undo 57 = .ok (.iaload, 1) := by decide +kernel
theorem dX7_undo_58 : decode cX7_undo 58 = .ok (.iastore, 1) := by decide +kernel
theorem dX7_undo_59 : decode cX7_undo 59 = .ok (.iinc 1 1, 3) := by decide +kernel
theorem dX7_undo_62 : decode cX7_undo 62 = .ok (.goto (-29), 3) := by decide +kernel
theorem dX7_undo_65 : decode cX7_undo 65 = .ok (.aload_n 0, 1) := by decide +kernel
theorem dX7_undo_66 : decode cX7_undo 66 = .ok (.getfield 46, 3) := by decide +kernel
theorem dX7_undo_69 : decode cX7_undo 69 = .ok (.ireturn, 1) := by decide +kernel
theorem dX7_feastOn_0 : decode cX7_feastOn 0 = .ok (.aload_n 0, 1) := by decide +kernel
theorem dX7_feastOn_1 : decode cX7_feastOn 1 = .ok (.iload_n 1, 1) := by decide +kernel
theorem dX7_feastOn_2 : decode cX7_feastOn 2 = .ok (.invokevirtual 132, 3) := by decide +kernel
theorem dX7_feastOn_5 : decode cX7_feastOn 5 = .ok (.iconst 0, 1) := by decide +kernel
theorem dX7_feastOn_6 : decode cX7_feastOn 6 = .ok (.istore_n 3, 1) := by decide +kernel
theorem dX7_feastOn_7 : decode cX7_feastOn 7 = .ok (.iload_n 3, 1) := by decide +kernel
theorem dX7_feastOn_8 : decode cX7_feastOn 8 = .ok (.aload_n 0, 1) := by decide +kernel
theorem dX7_feastOn_9 : decode cX7_feastOn 9 = .ok (.getfield 7, 3) := by decide +kernel
theorem dX7_feastOn_12 : decode cX7_feastOn 12 = .ok (.iconst 0, 1) := by decide +kernel
theorem dX7_feastOn_13 : decode cX7_feastOn 13 = .ok (.iaload, 1) := by decide +kernel
theorem dX7_feastOn_14 : decode cX7_feastOn 14 = .ok (.if_icmp .ge 20, 3) := by decide +kernel
theorem dX7_feastOn_17 : decode cX7_feastOn 17 = .ok (.aload_n 0, 1) := by decide +kernel
theorem dX7_feastOn_18 : decode cX7_feastOn 18 = .ok (.iload_n 3, 1) := by decide +kernel
theorem dX7_feastOn_19 : decode cX7_feastOn 19 = .ok (.invokevirtual 136, 3) := by decide +kernel
theorem dX7_feastOn_22 : decode cX7_feastOn 22 = .ok (.iload_n 2, 1) := by decide +kernel
theorem dX7_feastOn_23 : decode cX7_feastOn 23 = .ok (.if_icmp .ne 5, 3) := by decide +kernel
theorem dX7_feastOn_26 : decode cX7_feastOn 26 = .ok (.iload_n 3, 1) := by decide +kernel
theorem dX7_feastOn_27 : decode cX7_feastOn 27 = .ok (.ireturn, 1) := by decide +kernel
theorem dX7_feastOn_28 : decode cX7_feastOn 28 = .ok (.iinc 3 1, 3) := by decide +kernel
theorem dX7_feastOn_31 : decode cX7_feastOn 31 = .ok (.goto (-24), 3) := by decide +kernel
theorem dX7_feastOn_34 : decode cX7_feastOn 34 = .ok (.iconst (-1), 1) := by decide +kernel
theorem dX7_feastOn_35 : decode cX7_feastOn 35 = .ok (.ireturn, 1) := by decide +kernel
theorem dX7_aboutDay_0 : decode cX7_aboutDay 0 = .ok (.iload_n 2, 1) := by decide +kernel
theorem dX7_aboutDay_1 : decode cX7_aboutDay 1 = .ok (.iload_n 1, 1) := by decide +kernel
theorem dX7_aboutDay_2 : decode cX7_aboutDay 2 = .ok (.invokestatic 49, 3) := by decide +kernel
theorem dX7_aboutDay_5 : decode cX7_aboutDay 5 = .ok (.if_icmp .lt 7, 3) := by decide +kernel
theorem dX7_aboutDay_8 : decode cX7_aboutDay 8 = .ok (.iconst (-1), 1) := by decide +kernel
theorem dX7_aboutDay_9 : decode cX7_aboutDay 9 = .ok (.goto 42, 3) := by decide +kernel
theorem dX7_aboutDay_12 : decode cX7_aboutDay 12 = .ok (.iload_n 3, 1) := by decide +kernel
theorem dX7_aboutDay_13 : decode cX7_aboutDay 13 = .ok (.ifCond .ne 11, 3) := by decide +kernel
theorem dX7_aboutDay_16 : decode cX7_aboutDay 16 = .ok (.iload_n 1, 1) := by decide +kernel
theorem dX7_aboutDay_17 : decode cX7_aboutDay 17 = .ok (.iload_n 2, 1) := by decide +kernel
theorem dX7_aboutDay_18 : decode cX7_aboutDay 18 = .ok (.invokestatic 53, 3) := by decide +kernel
theorem dX7_aboutDay_21 : decode cX7_aboutDay 21 = .ok (.goto 30, 3) := by decide +kernel
theorem dX7_aboutDay_24 : decode cX7_aboutDay 24 = .ok (.iload_n 3, 1) := by decide +kernel
theorem dX7_aboutDay_25 : decode cX7_aboutDay 25 = .ok (.iconst 1, 1) := by decide +kernel
theorem dX7_aboutDay_26 : decode cX7_aboutDay 26 = .ok (.if_icmp .ne 19, 3) := by decide +kernel
theorem dX7_aboutDay_29 : decode cX7_aboutDay 29 = .ok (.aload_n 0, 1) := by decide +kernel
theorem dX7_aboutDay_30 : decode cX7_aboutDay 30 = .ok (.iload_n 1, 1) := by decide +kernel
theorem dX7_aboutDay_31 : decode cX7_aboutDay 31 = .ok (.iload_n 2, 1) := by decide +kernel
theorem dX7_aboutDay_32 : decode cX7_aboutDay 32 = .ok (.aload_n 0, 1) := by decide +kernel
theorem dX7_aboutDay_33 : decode cX7_aboutDay 33 = .ok (.getfield 7, 3) := by decide +kernel
theorem dX7_aboutDay_36 : decode cX7_aboutDay 36 = .ok (.bipush 41, 2) := by decide +kernel
theorem dX7_aboutDay_38 : decode cX7_aboutDay 38 = .ok (.iaload, 1) := by decide +kernel
theorem dX7_aboutDay_39 : decode cX7_aboutDay 39 = .ok (.invokevirtual 57, 3) := by decide +kernel
theorem dX7_aboutDay_42 : decode cX7_aboutDay 42 = .ok (.goto 9, 3) := by decide +kernel
theorem dX7_aboutDay_45 : decode cX7_aboutDay 45 = .ok (.aload_n 0, 1) := by decide +kernel
theorem dX7_aboutDay_46 : decode cX7_aboutDay 46 = .ok (.iload_n 1, 1) := by decide +kernel
theorem dX7_aboutDay_47 : decode cX7_aboutDay 47 = .ok (.iload_n 2, 1) := by decide +kernel
theorem dX7_aboutDay_48 : decode cX7_aboutDay 48 = .ok (.invokevirtual 139, 3) := by decide +kernel
theorem dX7_aboutDay_51 : decode cX7_aboutDay 51 = .ok (.ireturn, 1) := by decide +kernel
theorem dX7_day_0 : decode cX7_day 0 = .ok (.aload_n 0, 1) := by decide +kernel
theorem dX7_day_1 : decode cX7_day 1 = .ok (.iload_n 1, 1) := by decide +kernel
theorem dX7_day_2 : decode cX7_day 2 = .ok (.invokestatic 123, 3) := by decide +kernel
theorem dX7_day_5 : decode cX7_day 5 = .ok (.ifCond .eq 27, 3) := by decide +kernel
theorem dX7_day_8 : decode cX7_day 8 = .ok (.iload_n 2, 1) := by decide +kernel
theorem dX7_day_9 : decode cX7_day 9 = .ok (.iconst 0, 1) := by decide +kernel
theorem dX7_day_10 : decode cX7_day 10 = .ok (.sipush 365, 3) := by decide +kernel
theorem dX7_day_13 : decode cX7_day 13 = .ok (.invokestatic 42, 3) := by decide +kernel
theorem dX7_day_16 : decode cX7_day 16 = .ok (.ifCond .eq 16, 3) := by decide +kernel
theorem dX7_day_19 : decode cX7_day 19 = .ok (.iload_n 3, 1) := by decide +kernel
theorem dX7_day_20 : decode cX7_day 20 = .ok (.iconst 0, 1) := by decide +kernel
theorem dX7_day_21 : decode cX7_day 21 = .ok (.iconst 2, 1) := by decide +kernel
theorem dX7_day_22 : decode cX7_day 22 = .ok (.invokestatic 42, 3) := by decide +kernel
theorem dX7_day_25 : decode cX7_day 25 = .ok (.ifCond .eq 7, 3) := by decide +kernel
theorem dX7_day_28 : decode cX7_day 28 = .ok (.iconst 0, 1) := by decide +kernel
theorem dX7_day_29 : decode cX7_day 29 = .ok (.goto 4, 3) := by decide +kernel
theorem dX7_day_32 : decode cX7_day 32 = .ok (.iconst 1, 1) := by decide +kernel
theorem dX7_day_33 : decode cX7_day 33 = .ok (.invokevirtual 80, 3) := by decide +kernel
theorem dX7_day_36 : decode cX7_day 36 = .ok (.ifCond .eq 13, 3) := by decide +kernel
theorem dX7_day_39 : decode cX7_day 39 = .ok (.aload_n 0, 1) := by decide +kernel
theorem dX7_day_40 : decode cX7_day 40 = .ok (.iload_n 1, 1) := by decide +kernel
theorem dX7_day_41 : decode cX7_day 41 = .ok (.iload_n 2, 1) := by decide +kernel
theorem dX7_day_42 : decode cX7_day 42 = .ok (.iload_n 3, 1) := by decide +kernel
theorem dX7_day_43 : decode cX7_day 43 = .ok (.invokevirtual 142, 3) := by decide +kernel
theorem dX7_day_46 : decode cX7_day 46 = .ok (.goto 4, 3) := by decide +kernel
theorem dX7_day_49 : decode cX7_day 49 = .ok (.iconst 0, 1) := by decide +kernel
theorem dX7_day_50 : decode cX7_day 50 = .ok (.ireturn, 1) := by decide +kernel
theorem dX7_ofFeast_0 : decode cX7_ofFeast 0 = .ok (.aload_n 0, 1) := by decide +kernel
theorem dX7_ofFeast_1 : decode cX7_ofFeast 1 = .ok (.getfield 7, 3) := by decide +kernel
theorem dX7_ofFeast_4 : decode cX7_ofFeast 4 = .ok (.iload_n 1, 1) := by decide +kernel
theorem dX7_ofFeast_5 : decode cX7_ofFeast 5 = .ok (.iload_n 2, 1) := by decide +kernel
theorem dX7_ofFeast_6 : decode cX7_ofFeast 6 = .ok (.invokestatic 61, 3) := by decide +kernel
theorem dX7_ofFeast_9 : decode cX7_ofFeast 9 = .ok (.iaload, 1) := by decide +kernel
theorem dX7_ofFeast_10 : decode cX7_ofFeast 10 = .ok (.istore_n 3, 1) := by decide +kernel
theorem dX7_ofFeast_11 : decode cX7_ofFeast 11 = .ok (.iload_n 2, 1) := by decide +kernel
theorem dX7_ofFeast_12 : decode cX7_ofFeast 12 = .ok (.iconst 2, 1) := by decide +kernel
theorem dX7_ofFeast_13 : decode cX7_ofFeast 13 = .ok (.if_icmp .ne 24, 3) := by decide +kernel
theorem dX7_ofFeast_16 : decode cX7_ofFeast 16 = .ok (.aload_n 0, 1) := by decide +kernel
theorem dX7_ofFeast_17 : decode cX7_ofFeast 17 = .ok (.getfield 7, 3) := by decide +kernel
theorem dX7_ofFeast_20 : decode cX7_ofFeast 20 = .ok (.iload_n 1, 1) := by decide +kernel
theorem dX7_ofFeast_21 : decode cX7_ofFeast 21 = .ok (.iconst 0, 1) := by decide +kernel
theorem dX7_ofFeast_22 : decode cX7_ofFeast 22 = .ok (.invokestatic 61, 3) := by decide +kernel
theorem dX7_ofFeast_25 : decode cX7_ofFeast 25 = .ok (.iaload, 1) := by decide +kernel
theorem dX7_ofFeast_26 : decode cX7_ofFeast 26 = .ok (.iconst 3, 1) := by decide +kernel
theorem dX7_ofFeast_27 : decode cX7_ofFeast 27 = .ok (.if_icmp .ne 10, 3) := by decide +kernel
theorem dX7_ofFeast_30 : decode cX7_ofFeast 30 = .ok (.iload_n 3, 1) := by decide +kernel
theorem dX7_ofFeast_31 : decode cX7_ofFeast 31 = .ok (.bipush 90, 2) := by decide +kernel
theorem dX7_ofFeast_33 : decode cX7_ofFeast 33 = .ok (.iadd, 1) := by decide +kernel
theorem dX7_ofFeast_34 : decode cX7_ofFeast 34 = .ok (.goto 4, 3) := by decide +kernel
theorem dX7_ofFeast_37 : decode cX7_ofFeast 37 = .ok (.iload_n 3, 1) := by decide +kernel
theorem dX7_ofFeast_38 : decode cX7_ofFeast 38 = .ok (.ireturn, 1) := by decide +kernel
theorem dX7_feast_0 : decode cX7_feast 0 = .ok (.aload_n 0, 1) := by decide +kernel
theorem dX7_feast_1 : decode cX7_feast 1 = .ok (.aload_n 0, 1) := by decide +kernel
theorem dX7_feast_2 : decode cX7_feast 2 = .ok (.iload_n 1, 1) := by decide +kernel
theorem dX7_feast_3 : decode cX7_feast 3 = .ok (.invokevirtual 114, 3) := by decide +kernel
theorem dX7_feast_6 : decode cX7_feast 6 = .ok (.ifCond .ne 7, 3) := by decide +kernel
theorem dX7_feast_9 : decode cX7_feast 9 = .ok (.iconst 1, 1) := by decide +kernel
theorem dX7_feast_10 : decode cX7_feast 10 = .ok (.goto 17, 3) := by decide +kernel
theorem dX7_feast_13 : decode cX7_feast 13 = .ok (.iload_n 2, 1) := by decide +kernel
theorem dX7_feast_14 : decode cX7_feast 14 = .ok (.iconst 0, 1) := by decide +kernel
theorem dX7_feast_15 : decode cX7_feast 15 = .ok (.iconst 3, 1) := by decide +kernel
theorem dX7_feast_16 : decode cX7_feast 16 = .ok (.invokestatic 42, 3) := by decide +kernel
theorem dX7_feast_19 : decode cX7_feast 19 = .ok (.ifCond .ne 7, 3) := by decide +kernel
theorem dX7_feast_22 : decode cX7_feast 22 = .ok (.iconst 2, 1) := by decide +kernel
theorem dX7_feast_23 : decode cX7_feast 23 = .ok (.goto 4, 3) := by decide +kernel
theorem dX7_feast_26 : decode cX7_feast 26 = .ok (.iconst 0, 1) := by decide +kernel
theorem dX7_feast_27 : decode cX7_feast 27 = .ok (.invokevirtual 80, 3) := by decide +kernel
theorem dX7_feast_30 : decode cX7_feast 30 = .ok (.ifCond .eq 12, 3) := by decide +kernel
theorem dX7_feast_33 : decode cX7_feast 33 = .ok (.aload_n 0, 1) := by decide +kernel
theorem dX7_feast_34 : decode cX7_feast 34 = .ok (.iload_n 1, 1) := by decide +kernel
theorem dX7_feast_35 : decode cX7_feast 35 = .ok (.iload_n 2, 1) := by decide +kernel
theorem dX7_feast_36 : decode cX7_feast 36 = .ok (.invokevirtual 145, 3) := by decide +kernel
theorem dX7_feast_39 : decode cX7_feast 39 = .ok (.goto 4, 3) := by decide +kernel
theorem dX7_feast_42 : decode cX7_feast 42 = .ok (.iconst 0, 1) := by decide +kernel
theorem dX7_feast_43 : decode cX7_feast 43 = .ok (.ireturn, 1) := by decide +kernel
theorem dX7_dayOf_0 : decode cX7_dayOf 0 = .ok (.aload_n 0, 1) := by decide +kernel
theorem dX7_dayOf_1 : decode cX7_dayOf 1 = .ok (.iload_n 2, 1) := by decide +kernel
theorem dX7_dayOf_2 : decode cX7_dayOf 2 = .ok (.aload_n 0, 1) := by decide +kernel
theorem dX7_dayOf_3 : decode cX7_dayOf 3 = .ok (.getfield 7, 3) := by decide +kernel
theorem dX7_dayOf_6 : decode cX7_dayOf 6 = .ok (.bipush 41, 2) := by decide +kernel
theorem dX7_dayOf_8 : decode cX7_dayOf 8 = .ok (.iload_n 3, 1) := by decide +kernel
theorem dX7_dayOf_9 : decode cX7_dayOf 9 = .ok (.iadd, 1) := by decide +kernel
theorem dX7_dayOf_10 : decode cX7_dayOf 10 = .ok (.iaload, 1) := by decide +kernel
theorem dX7_dayOf_11 : decode cX7_dayOf 11 = .ok (.invokevirtual 74, 3) := by decide +kernel
theorem dX7_dayOf_14 : decode cX7_dayOf 14 = .ok (.iload 4, 2) := by decide +kernel
theorem dX7_dayOf_16 : decode cX7_dayOf 16 = .ok (.ifCond .eq 12, 3) := by decide +kernel
theorem dX7_dayOf_19 : decode cX7_dayOf 19 = .ok (.aload_n 0, 1) := by decide +kernel
theorem dX7_dayOf_20 : decode cX7_dayOf 20 = .ok (.getfield 19, 3) := by decide +kernel
theorem dX7_dayOf_23 : decode cX7_dayOf 23 = .ok (.iload_n 1, 1) := by decide +kernel
theorem dX7_dayOf_24 : decode cX7_dayOf 24 = .ok (.iaload, 1) := by decide +kernel
theorem dX7_dayOf_25 : decode cX7_dayOf 25 = .ok (.goto 9, 3) := by decide +kernel
theorem dX7_dayOf_28 : decode cX7_dayOf 28 = .ok (.aload_n 0, 1) := by decide +kernel
theorem dX7_dayOf_29 : decode cX7_dayOf 29 = .ok (.getfield 22, 3) := by decide +kernel
theorem dX7_dayOf_32 : decode cX7_dayOf 32 = .ok (.iload_n 1, 1) := by decide +kernel
theorem dX7_dayOf_33 : decode cX7_dayOf 33 = .ok (.iaload, 1) := by decide +kernel
theorem dX7_dayOf_34 : decode cX7_dayOf 34 = .ok (.ireturn, 1) := by decide +kernel
theorem dX7_when_0 : decode cX7_when 0 = .ok (.aload_n 0, 1) := by decide +kernel
theorem dX7_when_1 : decode cX7_when 1 = .ok (.aload_n 0, 1) := by decide +kernel
theorem dX7_when_2 : decode cX7_when 2 = .ok (.iload_n 1, 1) := by decide +kernel
theorem dX7_when_3 : decode cX7_when 3 = .ok (.invokevirtual 114, 3) := by decide +kernel
theorem dX7_when_6 : decode cX7_when 6 = .ok (.ifCond .ne 7, 3) := by decide +kernel
theorem dX7_when_9 : decode cX7_when 9 = .ok (.iconst 1, 1) := by decide +kernel
theorem dX7_when_10 : decode cX7_when 10 = .ok (.goto 22, 3) := by decide +kernel
theorem dX7_when_13 : decode cX7_when 13 = .ok (.iload_n 2, 1) := by decide +kernel
theorem dX7_when_14 : decode cX7_when 14 = .ok (.invokestatic 123, 3) := by decide +kernel
theorem dX7_when_17 : decode cX7_when 17 = .ok (.ifCond .eq 10, 3) := by decide +kernel
theorem dX7_when_20 : decode cX7_when 20 = .ok (.iload_n 3, 1) := by decide +kernel
theorem dX7_when_21 : decode cX7_when 21 = .ok (.invokestatic 120, 3) := by decide +kernel
theorem dX7_when_24 : decode cX7_when 24 = .ok (.ifCond .ne 7, 3) := by decide +kernel
theorem dX7_when_27 : decode cX7_when 27 = .ok (.iconst 2, 1) := by decide +kernel
theorem dX7_when_28 : decode cX7_when 28 = .ok (.goto 4, 3) := by decide +kernel
theorem dX7_when_31 : decode cX7_when 31 = .ok (.iconst 0, 1) := by decide +kernel
theorem dX7_when_32 : decode cX7_when 32 = .ok (.invokevirtual 80, 3) := by decide +kernel
theorem dX7_when_35 : decode cX7_when 35 = .ok (.ifCond .eq 15, 3) := by decide +kernel
theorem dX7_when_38 : decode cX7_when 38 = .ok (.aload_n 0, 1) := by decide +kernel
theorem dX7_when_39 : decode cX7_when 39 = .ok (.iload_n 1, 1) := by decide +kernel
theorem dX7_when_40 : decode cX7_when 40 = .ok (.iload_n 2, 1) := by decide +kernel
theorem dX7_when_41 : decode cX7_when 41 = .ok (.iload_n 3, 1) := by decide +kernel
theorem dX7_when_42 : decode cX7_when 42 = .ok (.iload 4, 2) := by decide +kernel
theorem dX7_when_44 : decode cX7_when 44 = .ok (.invokevirtual 148, 3) := by decide +kernel
theorem dX7_when_47 : decode cX7_when 47 = .ok (.goto 4, 3) := by decide +kernel
theorem dX7_when_50 : decode cX7_when 50 = .ok (.iconst 0, 1) := by decide +kernel
theorem dX7_when_51 : decode cX7_when 51 = .ok (.ireturn, 1) := by decide +kernel
theorem dX7_settledOf_0 : decode cX7_settledOf 0 = .ok (.aload_n 0, 1) := by decide +kernel
theorem dX7_settledOf_1 : decode cX7_settledOf 1 = .ok (.iload_n 2, 1) := by decide +kernel
theorem dX7_settledOf_2 : decode cX7_settledOf 2 = .ok (.invokevirtual 132, 3) := by decide +kernel
theorem dX7_settledOf_5 : decode cX7_settledOf 5 = .ok (.aload_n 0, 1) := by decide +kernel
theorem dX7_settledOf_6 : decode cX7_settledOf 6 = .ok (.iload_n 1, 1) := by decide +kernel
theorem dX7_settledOf_7 : decode cX7_settledOf 7 = .ok (.invokevirtual 136, 3) := by decide +kernel
theorem dX7_settledOf_10 : decode cX7_settledOf 10 = .ok (.ireturn, 1) := by decide +kernel
theorem dX7_settled_0 : decode cX7_settled 0 = .ok (.aload_n 0, 1) := by decide +kernel
theorem dX7_settled_1 : decode cX7_settled 1 = .ok (.aload_n 0, 1) := by decide +kernel
theorem dX7_settled_2 : decode cX7_settled 2 = .ok (.iload_n 1, 1) := by decide +kernel
theorem dX7_settled_3 : decode cX7_settled 3 = .ok (.invokevirtual 114, 3) := by decide +kernel
theorem dX7_settled_6 : decode cX7_settled 6 = .ok (.ifCond .ne 7, 3) := by decide +kernel
theorem dX7_settled_9 : decode cX7_settled 9 = .ok (.iconst 1, 1) := by decide +kernel
theorem dX7_settled_10 : decode cX7_settled 10 = .ok (.goto 15, 3) := by decide +kernel
theorem dX7_settled_13 : decode cX7_settled 13 = .ok (.iload_n 2, 1) := by decide +kernel
theorem dX7_settled_14 : decode cX7_settled 14 = .ok (.invokestatic 123, 3) := by decide +kernel
theorem dX7_settled_17 : decode cX7_settled 17 = .ok (.ifCond .ne 7, 3) := by decide +kernel
theorem dX7_settled_20 : decode cX7_settled 20 = .ok (.iconst 2, 1) := by decide +kernel
theorem dX7_settled_21 : decode cX7_settled 21 = .ok (.goto 4, 3) := by decide +kernel
theorem dX7_settled_24 : decode cX7_settled 24 = .ok (.iconst 0, 1) := by decide +kernel
theorem dX7_settled_25 : decode cX7_settled 25 = .ok (.invokevirtual 80, 3) := by decide +kernel
theorem dX7_settled_28 : decode cX7_settled 28 = .ok (.ifCond .eq 12, 3) := by decide +kernel
theorem dX7_settled_31 : decode cX7_settled 31 = .ok (.aload_n 0, 1) := by decide +kernel
theorem dX7_settled_32 : decode cX7_settled 32 = .ok (.iload_n 1, 1) := by decide +kernel
theorem dX7_settled_33 : decode cX7_settled 33 = .ok (.iload_n 2, 1) := by decide +kernel
theorem dX7_settled_34 : decode cX7_settled 34 = .ok (.invokevirtual 152, 3) := by decide +kernel
theorem dX7_settled_37 : decode cX7_settled 37 = .ok (.goto 4, 3) := by decide +kernel
theorem dX7_settled_40 : decode cX7_settled 40 = .ok (.iconst 0, 1) := by decide +kernel
theorem dX7_settled_41 : decode cX7_settled 41 = .ok (.ireturn, 1) := by decide +kernel
theorem dX7_quarrelsOf_0 : decode cX7_quarrelsOf 0 = .ok (.aload_n 0, 1) := by decide +kernel
theorem dX7_quarrelsOf_1 : decode cX7_quarrelsOf 1 = .ok (.iload_n 1, 1) := by decide +kernel
theorem dX7_quarrelsOf_2 : decode cX7_quarrelsOf 2 = .ok (.invokevirtual 132, 3) := by decide +kernel
theorem dX7_quarrelsOf_5 : decode cX7_quarrelsOf 5 = .ok (.aload_n 0, 1) := by decide +kernel
theorem dX7_quarrelsOf_6 : decode cX7_quarrelsOf 6 = .ok (.invokevirtual 155, 3) := by decide +kernel
