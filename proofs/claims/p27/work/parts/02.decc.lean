theorem dX6_calmestSlip_59 : decode cX6_calmestSlip 59 = .ok (.invokevirtual 303, 3) := by decide +kernel
theorem dX6_calmestSlip_62 : decode cX6_calmestSlip 62 = .ok (.aload_n 0, 1) := by decide +kernel
theorem dX6_calmestSlip_63 : decode cX6_calmestSlip 63 = .ok (.getfield 12, 3) := by decide +kernel
theorem dX6_calmestSlip_66 : decode cX6_calmestSlip 66 = .ok (.iload_n 2, 1) := by decide +kernel
theorem dX6_calmestSlip_67 : decode cX6_calmestSlip 67 = .ok (.iload 7, 2) := by decide +kernel
theorem dX6_calmestSlip_69 : decode cX6_calmestSlip 69 = .ok (.invokevirtual 122, 3) := by decide +kernel
theorem dX6_calmestSlip_72 : decode cX6_calmestSlip 72 = .ok (.aload_n 0, 1) := by decide +kernel
theorem dX6_calmestSlip_73 : decode cX6_calmestSlip 73 = .ok (.getfield 49, 3) := by decide +kernel
theorem dX6_calmestSlip_76 : decode cX6_calmestSlip 76 = .ok (.aload_n 0, 1) := by decide +kernel
theorem dX6_calmestSlip_77 : decode cX6_calmestSlip 77 = .ok (.getfield 12, 3) := by decide +kernel
theorem dX6_calmestSlip_80 : decode cX6_calmestSlip 80 = .ok (.getfield 87, 3) := by decide +kernel
theorem dX6_calmestSlip_83 : decode cX6_calmestSlip 83 = .ok (.invokevirtual 194, 3) := by decide +kernel
theorem dX6_calmestSlip_86 : decode cX6_calmestSlip 86 = .ok (.istore 8, 2) := by decide +kernel
theorem dX6_calmestSlip_88 : decode cX6_calmestSlip 88 = .ok (.iload 8, 2) := by decide +kernel
theorem dX6_calmestSlip_90 : decode cX6_calmestSlip 90 = .ok (.iload 4, 2) := by decide +kernel
theorem dX6_calmestSlip_92 : decode cX6_calmestSlip 92 = .ok (.if_icmp .ge 10, 3) := by decide +kernel
theorem dX6_calmestSlip_95 : decode cX6_calmestSlip 95 = .ok (.iload 8, 2) := by decide +kernel
theorem dX6_calmestSlip_97 : decode cX6_calmestSlip 97 = .ok (.istore 4, 2) := by decide +kernel
theorem dX6_calmestSlip_99 : decode cX6_calmestSlip 99 = .ok (.iload 7, 2) := by decide +kernel
theorem dX6_calmestSlip_101 : decode cX6_calmestSlip 101 = .ok (.istore_n 3, 1) := by decide +kernel
theorem dX6_calmestSlip_102 : decode cX6_calmestSlip 102 = .ok (.iinc 5 1, 3) := by decide +kernel
theorem dX6_calmestSlip_105 : decode cX6_calmestSlip 105 = .ok (.goto (-84), 3) := by decide +kernel
theorem dX6_calmestSlip_108 : decode cX6_calmestSlip 108 = .ok (.iload_n 3, 1) := by decide +kernel
theorem dX6_calmestSlip_109 : decode cX6_calmestSlip 109 = .ok (.ireturn, 1) := by decide +kernel
theorem dL_cell_0 : decode cL_cell 0 = .ok (.iload_n 1, 1) := by decide +kernel
theorem dL_cell_1 : decode cL_cell 1 = .ok (.aload_n 0, 1) := by decide +kernel
theorem dL_cell_2 : decode cL_cell 2 = .ok (.arraylength, 1) := by decide +kernel
theorem dL_cell_3 : decode cL_cell 3 = .ok (.if_icmp .ge 9, 3) := by decide +kernel
theorem dL_cell_6 : decode cL_cell 6 = .ok (.aload_n 0, 1) := by decide +kernel
theorem dL_cell_7 : decode cL_cell 7 = .ok (.iload_n 1, 1) := by decide +kernel
theorem dL_cell_8 : decode cL_cell 8 = .ok (.iaload, 1) := by decide +kernel
theorem dL_cell_9 : decode cL_cell 9 = .ok (.goto 15, 3) := by decide +kernel
theorem dL_cell_12 : decode cL_cell 12 = .ok (.sipush 7919, 3) := by decide +kernel
theorem dL_cell_15 : decode cL_cell 15 = .ok (.iload_n 1, 1) := by decide +kernel
theorem dL_cell_16 : decode cL_cell 16 = .ok (.iconst 3, 1) := by decide +kernel
theorem dL_cell_17 : decode cL_cell 17 = .ok (.iadd, 1) := by decide +kernel
theorem dL_cell_18 : decode cL_cell 18 = .ok (.imul, 1) := by decide +kernel
theorem dL_cell_19 : decode cL_cell 19 = .ok (.iload_n 1, 1) := by decide +kernel
theorem dL_cell_20 : decode cL_cell 20 = .ok (.bipush 11, 2) := by decide +kernel
theorem dL_cell_22 : decode cL_cell 22 = .ok (.iadd, 1) := by decide +kernel
theorem dL_cell_23 : decode cL_cell 23 = .ok (.imul, 1) := by decide +kernel
theorem dL_cell_24 : decode cL_cell 24 = .ok (.ireturn, 1) := by decide +kernel
theorem dL_low_0 : decode cL_low 0 = .ok (.iload_n 0, 1) := by decide +kernel
theorem dL_low_1 : decode cL_low 1 = .ok (.ldc 7, 2) := by decide +kernel
theorem dL_low_3 : decode cL_low 3 = .ok (.iand, 1) := by decide +kernel
theorem dL_low_4 : decode cL_low 4 = .ok (.iload_n 1, 1) := by decide +kernel
theorem dL_low_5 : decode cL_low 5 = .ok (.irem, 1) := by decide +kernel
theorem dL_low_6 : decode cL_low 6 = .ok (.ireturn, 1) := by decide +kernel
theorem dL_number_0 : decode cL_number 0 = .ok (.iload_n 1, 1) := by decide +kernel
theorem dL_number_1 : decode cL_number 1 = .ok (.bipush 99, 2) := by decide +kernel
theorem dL_number_3 : decode cL_number 3 = .ok (.if_icmp .le 15, 3) := by decide +kernel
theorem dL_number_6 : decode cL_number 6 = .ok (.aload_n 0, 1) := by decide +kernel
theorem dL_number_7 : decode cL_number 7 = .ok (.bipush 48, 2) := by decide +kernel
theorem dL_number_9 : decode cL_number 9 = .ok (.iload_n 1, 1) := by decide +kernel
theorem dL_number_10 : decode cL_number 10 = .ok (.bipush 100, 2) := by decide +kernel
theorem dL_number_12 : decode cL_number 12 = .ok (.idiv, 1) := by decide +kernel
theorem dL_number_13 : decode cL_number 13 = .ok (.iadd, 1) := by decide +kernel
theorem dL_number_14 : decode cL_number 14 = .ok (.invokevirtual 8, 3) := by decide +kernel
theorem dL_number_17 : decode cL_number 17 = .ok (.pop, 1) := by decide +kernel
theorem dL_number_18 : decode cL_number 18 = .ok (.iload_n 1, 1) := by decide +kernel
theorem dL_number_19 : decode cL_number 19 = .ok (.bipush 9, 2) := by decide +kernel
theorem dL_number_21 : decode cL_number 21 = .ok (.if_icmp .le 18, 3) := by decide +kernel
theorem dL_number_24 : decode cL_number 24 = .ok (.aload_n 0, 1) := by decide +kernel
theorem dL_number_25 : decode cL_number 25 = .ok (.bipush 48, 2) := by decide +kernel
theorem dL_number_27 : decode cL_number 27 = .ok (.iload_n 1, 1) := by decide +kernel
theorem dL_number_28 : decode cL_number 28 = .ok (.bipush 10, 2) := by decide +kernel
theorem dL_number_30 : decode cL_number 30 = .ok (.idiv, 1) := by decide +kernel
theorem dL_number_31 : decode cL_number 31 = .ok (.bipush 10, 2) := by decide +kernel
theorem dL_number_33 : decode cL_number 33 = .ok (.irem, 1) := by decide +kernel
theorem dL_number_34 : decode cL_number 34 = .ok (.iadd, 1) := by decide +kernel
theorem dL_number_35 : decode cL_number 35 = .ok (.invokevirtual 8, 3) := by decide +kernel
theorem dL_number_38 : decode cL_number 38 = .ok (.pop, 1) := by decide +kernel
theorem dL_number_39 : decode cL_number 39 = .ok (.aload_n 0, 1) := by decide +kernel
theorem dL_number_40 : decode cL_number 40 = .ok (.bipush 48, 2) := by decide +kernel
theorem dL_number_42 : decode cL_number 42 = .ok (.iload_n 1, 1) := by decide +kernel
theorem dL_number_43 : decode cL_number 43 = .ok (.bipush 10, 2) := by decide +kernel
theorem dL_number_45 : decode cL_number 45 = .ok (.irem, 1) := by decide +kernel
theorem dL_number_46 : decode cL_number 46 = .ok (.iadd, 1) := by decide +kernel
theorem dL_number_47 : decode cL_number 47 = .ok (.invokevirtual 8, 3) := by decide +kernel
theorem dL_number_50 : decode cL_number 50 = .ok (.pop, 1) := by decide +kernel
theorem dL_number_51 : decode cL_number 51 = .ok (.return_, 1) := by decide +kernel
theorem dL_typed_0 : decode cL_typed 0 = .ok (.iload_n 2, 1) := by decide +kernel
theorem dL_typed_1 : decode cL_typed 1 = .ok (.ifCond .ne 11, 3) := by decide +kernel
theorem dL_typed_4 : decode cL_typed 4 = .ok (.iload_n 1, 1) := by decide +kernel
theorem dL_typed_5 : decode cL_typed 5 = .ok (.iconst 3, 1) := by decide +kernel
theorem dL_typed_6 : decode cL_typed 6 = .ok (.invokestatic 14, 3) := by decide +kernel
theorem dL_typed_9 : decode cL_typed 9 = .ok (.goto 8, 3) := by decide +kernel
theorem dL_typed_12 : decode cL_typed 12 = .ok (.iload_n 1, 1) := by decide +kernel
theorem dL_typed_13 : decode cL_typed 13 = .ok (.iconst 4, 1) := by decide +kernel
theorem dL_typed_14 : decode cL_typed 14 = .ok (.invokestatic 14, 3) := by decide +kernel
theorem dL_typed_17 : decode cL_typed 17 = .ok (.istore_n 3, 1) := by decide +kernel
theorem dL_typed_18 : decode cL_typed 18 = .ok (.aload_n 0, 1) := by decide +kernel
theorem dL_typed_19 : decode cL_typed 19 = .ok (.iload_n 3, 1) := by decide +kernel
theorem dL_typed_20 : decode cL_typed 20 = .ok (.ifCond .ne 8, 3) := by decide +kernel
theorem dL_typed_23 : decode cL_typed 23 = .ok (.bipush 100, 2) := by decide +kernel
theorem dL_typed_25 : decode cL_typed 25 = .ok (.goto 25, 3) := by decide +kernel
theorem dL_typed_28 : decode cL_typed 28 = .ok (.iload_n 3, 1) := by decide +kernel
theorem dL_typed_29 : decode cL_typed 29 = .ok (.iconst 1, 1) := by decide +kernel
theorem dL_typed_30 : decode cL_typed 30 = .ok (.if_icmp .ne 8, 3) := by decide +kernel
theorem dL_typed_33 : decode cL_typed 33 = .ok (.bipush 119, 2) := by decide +kernel
theorem dL_typed_35 : decode cL_typed 35 = .ok (.goto 15, 3) := by decide +kernel
theorem dL_typed_38 : decode cL_typed 38 = .ok (.iload_n 3, 1) := by decide +kernel
theorem dL_typed_39 : decode cL_typed 39 = .ok (.iconst 2, 1) := by decide +kernel
theorem dL_typed_40 : decode cL_typed 40 = .ok (.if_icmp .ne 8, 3) := by decide +kernel
theorem dL_typed_43 : decode cL_typed 43 = .ok (.bipush 109, 2) := by decide +kernel
theorem dL_typed_45 : decode cL_typed 45 = .ok (.goto 5, 3) := by decide +kernel
theorem dL_typed_48 : decode cL_typed 48 = .ok (.bipush 97, 2) := by decide +kernel
theorem dL_typed_50 : decode cL_typed 50 = .ok (.invokevirtual 8, 3) := by decide +kernel
theorem dL_typed_53 : decode cL_typed 53 = .ok (.pop, 1) := by decide +kernel
theorem dL_typed_54 : decode cL_typed 54 = .ok (.iload_n 3, 1) := by decide +kernel
theorem dL_typed_55 : decode cL_typed 55 = .ok (.iconst 3, 1) := by decide +kernel
theorem dL_typed_56 : decode cL_typed 56 = .ok (.if_icmp .ne 51, 3) := by decide +kernel
theorem dL_typed_59 : decode cL_typed 59 = .ok (.aload_n 0, 1) := by decide +kernel
theorem dL_typed_60 : decode cL_typed 60 = .ok (.iload_n 1, 1) := by decide +kernel
theorem dL_typed_61 : decode cL_typed 61 = .ok (.iconst 3, 1) := by decide +kernel
theorem dL_typed_62 : decode cL_typed 62 = .ok (.ishr, 1) := by decide +kernel
theorem dL_typed_63 : decode cL_typed 63 = .ok (.iload_n 2, 1) := by decide +kernel
theorem dL_typed_64 : decode cL_typed 64 = .ok (.invokestatic 14, 3) := by decide +kernel
theorem dL_typed_67 : decode cL_typed 67 = .ok (.invokestatic 20, 3) := by decide +kernel
theorem dL_typed_70 : decode cL_typed 70 = .ok (.aload_n 0, 1) := by decide +kernel
theorem dL_typed_71 : decode cL_typed 71 = .ok (.iload_n 1, 1) := by decide +kernel
theorem dL_typed_72 : decode cL_typed 72 = .ok (.bipush 7, 2) := by decide +kernel
theorem dL_typed_74 : decode cL_typed 74 = .ok (.ishr, 1) := by decide +kernel
theorem dL_typed_75 : decode cL_typed 75 = .ok (.iconst 1, 1) := by decide +kernel
theorem dL_typed_76 : decode cL_typed 76 = .ok (.iand, 1) := by decide +kernel
theorem dL_typed_77 : decode cL_typed 77 = .ok (.ifCond .ne 8, 3) := by decide +kernel
theorem dL_typed_80 : decode cL_typed 80 = .ok (.bipush 43, 2) := by decide +kernel
theorem dL_typed_82 : decode cL_typed 82 = .ok (.goto 5, 3) := by decide +kernel
theorem dL_typed_85 : decode cL_typed 85 = .ok (.bipush 45, 2) := by decide +kernel
theorem dL_typed_87 : decode cL_typed 87 = .ok (.invokevirtual 8, 3) := by decide +kernel
theorem dL_typed_90 : decode cL_typed 90 = .ok (.pop, 1) := by decide +kernel
theorem dL_typed_91 : decode cL_typed 91 = .ok (.aload_n 0, 1) := by decide +kernel
theorem dL_typed_92 : decode cL_typed 92 = .ok (.iload_n 1, 1) := by decide +kernel
theorem dL_typed_93 : decode cL_typed 93 = .ok (.bipush 8, 2) := by decide +kernel
theorem dL_typed_95 : decode cL_typed 95 = .ok (.ishr, 1) := by decide +kernel
theorem dL_typed_96 : decode cL_typed 96 = .ok (.bipush 50, 2) := by decide +kernel
theorem dL_typed_98 : decode cL_typed 98 = .ok (.invokestatic 14, 3) := by decide +kernel
theorem dL_typed_101 : decode cL_typed 101 = .ok (.invokestatic 20, 3) := by decide +kernel
theorem dL_typed_104 : decode cL_typed 104 = .ok (.goto 38, 3) := by decide +kernel
theorem dL_typed_107 : decode cL_typed 107 = .ok (.aload_n 0, 1) := by decide +kernel
theorem dL_typed_108 : decode cL_typed 108 = .ok (.iload_n 1, 1) := by decide +kernel
theorem dL_typed_109 : decode cL_typed 109 = .ok (.iconst 3, 1) := by decide +kernel
theorem dL_typed_110 : decode cL_typed 110 = .ok (.ishr, 1) := by decide +kernel
theorem dL_typed_111 : decode cL_typed 111 = .ok (.iconst 1, 1) := by decide +kernel
theorem dL_typed_112 : decode cL_typed 112 = .ok (.iand, 1) := by decide +kernel
theorem dL_typed_113 : decode cL_typed 113 = .ok (.ifCond .ne 15, 3) := by decide +kernel
theorem dL_typed_116 : decode cL_typed 116 = .ok (.iload_n 1, 1) := by decide +kernel
theorem dL_typed_117 : decode cL_typed 117 = .ok (.iconst 4, 1) := by decide +kernel
theorem dL_typed_118 : decode cL_typed 118 = .ok (.ishr, 1) := by decide +kernel
theorem dL_typed_119 : decode cL_typed 119 = .ok (.sipush 366, 3) := by decide +kernel
theorem dL_typed_122 : decode cL_typed 122 = .ok (.invokestatic 14, 3) := by decide +kernel
theorem dL_typed_125 : decode cL_typed 125 = .ok (.goto 14, 3) := by decide +kernel
theorem dL_typed_128 : decode cL_typed 128 = .ok (.bipush 90, 2) := by decide +kernel
theorem dL_typed_130 : decode cL_typed 130 = .ok (.iload_n 1, 1) := by decide +kernel
theorem dL_typed_131 : decode cL_typed 131 = .ok (.iconst 4, 1) := by decide +kernel
theorem dL_typed_132 : decode cL_typed 132 = .ok (.ishr, 1) := by decide +kernel
theorem dL_typed_133 : decode cL_typed 133 = .ok (.bipush 20, 2) := by decide +kernel
theorem dL_typed_135 : decode cL_typed 135 = .ok (.invokestatic 14, 3) := by decide +kernel
theorem dL_typed_138 : decode cL_typed 138 = .ok (.iadd, 1) := by decide +kernel
theorem dL_typed_139 : decode cL_typed 139 = .ok (.invokestatic 20, 3) := by decide +kernel
theorem dL_typed_142 : decode cL_typed 142 = .ok (.iload_n 3, 1) := by decide +kernel
theorem dL_typed_143 : decode cL_typed 143 = .ok (.iconst 1, 1) := by decide +kernel
theorem dL_typed_144 : decode cL_typed 144 = .ok (.if_icmp .eq 8, 3) := by decide +kernel
theorem dL_typed_147 : decode cL_typed 147 = .ok (.iload_n 3, 1) := by decide +kernel
theorem dL_typed_148 : decode cL_typed 148 = .ok (.iconst 2, 1) := by decide +kernel
theorem dL_typed_149 : decode cL_typed 149 = .ok (.if_icmp .ne 23, 3) := by decide +kernel
theorem dL_typed_152 : decode cL_typed 152 = .ok (.aload_n 0, 1) := by decide +kernel
theorem dL_typed_153 : decode cL_typed 153 = .ok (.bipush 44, 2) := by decide +kernel
theorem dL_typed_155 : decode cL_typed 155 = .ok (.invokevirtual 8, 3) := by decide +kernel
theorem dL_typed_158 : decode cL_typed 158 = .ok (.pop, 1) := by decide +kernel
theorem dL_typed_159 : decode cL_typed 159 = .ok (.aload_n 0, 1) := by decide +kernel
theorem dL_typed_160 : decode cL_typed 160 = .ok (.iload_n 1, 1) := by decide +kernel
theorem dL_typed_161 : decode cL_typed 161 = .ok (.bipush 13, 2) := by decide +kernel
theorem dL_typed_163 : decode cL_typed 163 = .ok (.ishr, 1) := by decide +kernel
theorem dL_typed_164 : decode cL_typed 164 = .ok (.bipush 7, 2) := by decide +kernel
theorem dL_typed_166 : decode cL_typed 166 = .ok (.invokestatic 14, 3) := by decide +kernel
theorem dL_typed_169 : decode cL_typed 169 = .ok (.invokestatic 20, 3) := by decide +kernel
theorem dL_typed_172 : decode cL_typed 172 = .ok (.iload_n 1, 1) := by decide +kernel
theorem dL_typed_173 : decode cL_typed 173 = .ok (.bipush 16, 2) := by decide +kernel
theorem dL_typed_175 : decode cL_typed 175 = .ok (.ishr, 1) := by decide +kernel
theorem dL_typed_176 : decode cL_typed 176 = .ok (.iconst 1, 1) := by decide +kernel
theorem dL_typed_177 : decode cL_typed 177 = .ok (.iand, 1) := by decide +kernel
theorem dL_typed_178 : decode cL_typed 178 = .ok (.iconst 1, 1) := by decide +kernel
theorem dL_typed_179 : decode cL_typed 179 = .ok (.if_icmp .ne 22, 3) := by decide +kernel
theorem dL_typed_182 : decode cL_typed 182 = .ok (.aload_n 0, 1) := by decide +kernel
theorem dL_typed_183 : decode cL_typed 183 = .ok (.bipush 94, 2) := by decide +kernel
theorem dL_typed_185 : decode cL_typed 185 = .ok (.invokevirtual 8, 3) := by decide +kernel
theorem dL_typed_188 : decode cL_typed 188 = .ok (.pop, 1) := by decide +kernel
theorem dL_typed_189 : decode cL_typed 189 = .ok (.aload_n 0, 1) := by decide +kernel
theorem dL_typed_190 : decode cL_typed 190 = .ok (.iload_n 1, 1) := by decide +kernel
theorem dL_typed_191 : decode cL_typed 191 = .ok (.bipush 17, 2) := by decide +kernel
theorem dL_typed_193 : decode cL_typed 193 = .ok (.ishr, 1) := by decide +kernel
theorem dL_typed_194 : decode cL_typed 194 = .ok (.iconst 4, 1) := by decide +kernel
theorem dL_typed_195 : decode cL_typed 195 = .ok (.invokestatic 14, 3) := by decide +kernel
theorem dL_typed_198 : decode cL_typed 198 = .ok (.invokestatic 20, 3) := by decide +kernel
theorem dL_typed_201 : decode cL_typed 201 = .ok (.return_, 1) := by decide +kernel
theorem dL_does_0 : decode cL_does 0 = .ok (.aload_n 0, 1) := by decide +kernel
theorem dL_does_1 : decode cL_does 1 = .ok (.iconst 0, 1) := by decide +kernel
theorem dL_does_2 : decode cL_does 2 = .ok (.invokevirtual 24, 3) := by decide +kernel
theorem dL_does_5 : decode cL_does 5 = .ok (.istore_n 2, 1) := by decide +kernel
theorem dL_does_6 : decode cL_does 6 = .ok (.iload_n 1, 1) := by decide +kernel
theorem dL_does_7 : decode cL_does 7 = .ok (.bipush 15, 2) := by decide +kernel
theorem dL_does_9 : decode cL_does 9 = .ok (.iand, 1) := by decide +kernel
theorem dL_does_10 : decode cL_does 10 = .ok (.tableswitch 227 0 14 #[74, 74, 74, 74, 74, 87, 108, 108, 137, 137, 160, 160, 160, 182, 210], 74) := by decide +kernel
theorem dL_does_84 : decode cL_does 84 = .ok (.aload_n 0, 1) := by decide +kernel
theorem dL_does_85 : decode cL_does 85 = .ok (.iload_n 1, 1) := by decide +kernel
theorem dL_does_86 : decode cL_does 86 = .ok (.iconst 4, 1) := by decide +kernel
theorem dL_does_87 : decode cL_does 87 = .ok (.ishr, 1) := by decide +kernel
theorem dL_does_88 : decode cL_does 88 = .ok (.iload_n 2, 1) := by decide +kernel
theorem dL_does_89 : decode cL_does 89 = .ok (.invokestatic 27, 3) := by decide +kernel
theorem dL_does_92 : decode cL_does 92 = .ok (.aload_n 0, 1) := by decide +kernel
theorem dL_does_93 : decode cL_does 93 = .ok (.invokevirtual 31, 3) := by decide +kernel
theorem dL_does_96 : decode cL_does 96 = .ok (.ireturn, 1) := by decide +kernel
theorem dL_does_97 : decode cL_does 97 = .ok (.iload_n 1, 1) := by decide +kernel
theorem dL_does_98 : decode cL_does 98 = .ok (.iconst 4, 1) := by decide +kernel
theorem dL_does_99 : decode cL_does 99 = .ok (.ishr, 1) := by decide +kernel
theorem dL_does_100 : decode cL_does 100 = .ok (.iconst 3, 1) := by decide +kernel
theorem dL_does_101 : decode cL_does 101 = .ok (.iand, 1) := by decide +kernel
theorem dL_does_102 : decode cL_does 102 = .ok (.ifCond .ne 14, 3) := by decide +kernel
theorem dL_does_105 : decode cL_does 105 = .ok (.iload_n 2, 1) := by decide +kernel
theorem dL_does_106 : decode cL_does 106 = .ok (.ifCond .le 10, 3) := by decide +kernel
theorem dL_does_109 : decode cL_does 109 = .ok (.aload_n 0, 1) := by decide +kernel
theorem dL_does_110 : decode cL_does 110 = .ok (.invokevirtual 35, 3) := by decide +kernel
theorem dL_does_113 : decode cL_does 113 = .ok (.goto 4, 3) := by decide +kernel
theorem dL_does_116 : decode cL_does 116 = .ok (.iconst 0, 1) := by decide +kernel
theorem dL_does_117 : decode cL_does 117 = .ok (.ireturn, 1) := by decide +kernel
theorem dL_does_118 : decode cL_does 118 = .ok (.iload_n 2, 1) := by decide +kernel
theorem dL_does_119 : decode cL_does 119 = .ok (.ifCond .le 26, 3) := by decide +kernel
theorem dL_does_122 : decode cL_does 122 = .ok (.aload_n 0, 1) := by decide +kernel
theorem dL_does_123 : decode cL_does 123 = .ok (.iload_n 1, 1) := by decide +kernel
theorem dL_does_124 : decode cL_does 124 = .ok (.iconst 4, 1) := by decide +kernel
theorem dL_does_125 : decode cL_does 125 = .ok (.ishr, 1) := by decide +kernel
theorem dL_does_126 : decode cL_does 126 = .ok (.iload_n 2, 1) := by decide +kernel
theorem dL_does_127 : decode cL_does 127 = .ok (.invokestatic 14, 3) := by decide +kernel
theorem dL_does_130 : decode cL_does 130 = .ok (.iload_n 1, 1) := by decide +kernel
theorem dL_does_131 : decode cL_does 131 = .ok (.bipush 8, 2) := by decide +kernel
theorem dL_does_133 : decode cL_does 133 = .ok (.ishr, 1) := by decide +kernel
theorem dL_does_134 : decode cL_does 134 = .ok (.bipush 10, 2) := by decide +kernel
theorem dL_does_136 : decode cL_does 136 = .ok (.invokestatic 14, 3) := by decide +kernel
theorem dL_does_139 : decode cL_does 139 = .ok (.invokevirtual 38, 3) := by decide +kernel
theorem dL_does_142 : decode cL_does 142 = .ok (.goto 4, 3) := by decide +kernel
theorem dL_does_145 : decode cL_does 145 = .ok (.iconst 0, 1) := by decide +kernel
theorem dL_does_146 : decode cL_does 146 = .ok (.ireturn, 1) := by decide +kernel
theorem dL_does_147 : decode cL_does 147 = .ok (.aload_n 0, 1) := by decide +kernel
theorem dL_does_148 : decode cL_does 148 = .ok (.iload_n 1, 1) := by decide +kernel
theorem dL_does_149 : decode cL_does 149 = .ok (.iconst 4, 1) := by decide +kernel
theorem dL_does_150 : decode cL_does 150 = .ok (.ishr, 1) := by decide +kernel
theorem dL_does_151 : decode cL_does 151 = .ok (.iconst 3, 1) := by decide +kernel
theorem dL_does_152 : decode cL_does 152 = .ok (.invokestatic 14, 3) := by decide +kernel
theorem dL_does_155 : decode cL_does 155 = .ok (.iload_n 1, 1) := by decide +kernel
theorem dL_does_156 : decode cL_does 156 = .ok (.bipush 6, 2) := by decide +kernel
theorem dL_does_158 : decode cL_does 158 = .ok (.ishr, 1) := by decide +kernel
theorem dL_does_159 : decode cL_does 159 = .ok (.bipush 11, 2) := by decide +kernel
theorem dL_does_161 : decode cL_does 161 = .ok (.invokestatic 14, 3) := by decide +kernel
theorem dL_does_164 : decode cL_does 164 = .ok (.iconst 5, 1) := by decide +kernel
theorem dL_does_165 : decode cL_does 165 = .ok (.isub, 1) := by decide +kernel
theorem dL_does_166 : decode cL_does 166 = .ok (.invokevirtual 41, 3) := by decide +kernel
theorem dL_does_169 : decode cL_does 169 = .ok (.ireturn, 1) := by decide +kernel
theorem dL_does_170 : decode cL_does 170 = .ok (.aload_n 0, 1) := by decide +kernel
theorem dL_does_171 : decode cL_does 171 = .ok (.iload_n 1, 1) := by decide +kernel
theorem dL_does_172 : decode cL_does 172 = .ok (.iconst 4, 1) := by decide +kernel
theorem dL_does_173 : decode cL_does 173 = .ok (.ishr, 1) := by decide +kernel
theorem dL_does_174 : decode cL_does 174 = .ok (.sipush 1000, 3) := by decide +kernel
theorem dL_does_177 : decode cL_does 177 = .ok (.invokestatic 14, 3) := by decide +kernel
theorem dL_does_180 : decode cL_does 180 = .ok (.iload_n 1, 1) := by decide +kernel
theorem dL_does_181 : decode cL_does 181 = .ok (.bipush 14, 2) := by decide +kernel
theorem dL_does_183 : decode cL_does 183 = .ok (.ishr, 1) := by decide +kernel
theorem dL_does_184 : decode cL_does 184 = .ok (.iconst 3, 1) := by decide +kernel
theorem dL_does_185 : decode cL_does 185 = .ok (.invokestatic 14, 3) := by decide +kernel
theorem dL_does_188 : decode cL_does 188 = .ok (.invokevirtual 44, 3) := by decide +kernel
theorem dL_does_191 : decode cL_does 191 = .ok (.ireturn, 1) := by decide +kernel
theorem dL_does_192 : decode cL_does 192 = .ok (.aload_n 0, 1) := by decide +kernel
theorem dL_does_193 : decode cL_does 193 = .ok (.iconst 1, 1) := by decide +kernel
theorem dL_does_194 : decode cL_does 194 = .ok (.invokevirtual 24, 3) := by decide +kernel
theorem dL_does_197 : decode cL_does 197 = .ok (.ifCond .le 21, 3) := by decide +kernel
theorem dL_does_200 : decode cL_does 200 = .ok (.aload_n 0, 1) := by decide +kernel
theorem dL_does_201 : decode cL_does 201 = .ok (.iload_n 1, 1) := by decide +kernel
theorem dL_does_202 : decode cL_does 202 = .ok (.iconst 4, 1) := by decide +kernel
theorem dL_does_203 : decode cL_does 203 = .ok (.ishr, 1) := by decide +kernel
theorem dL_does_204 : decode cL_does 204 = .ok (.aload_n 0, 1) := by decide +kernel
theorem dL_does_205 : decode cL_does 205 = .ok (.iconst 1, 1) := by decide +kernel
theorem dL_does_206 : decode cL_does 206 = .ok (.invokevirtual 24, 3) := by decide +kernel
theorem dL_does_209 : decode cL_does 209 = .ok (.invokestatic 14, 3) := by decide +kernel
theorem dL_does_212 : decode cL_does 212 = .ok (.invokevirtual 47, 3) := by decide +kernel
theorem dL_does_215 : decode cL_does 215 = .ok (.goto 4, 3) := by decide +kernel
theorem dL_does_218 : decode cL_does 218 = .ok (.iconst 0, 1) := by decide +kernel
theorem dL_does_219 : decode cL_does 219 = .ok (.ireturn, 1) := by decide +kernel
theorem dL_does_220 : decode cL_does 220 = .ok (.aload_n 0, 1) := by decide +kernel
theorem dL_does_221 : decode cL_does 221 = .ok (.bipush 50, 2) := by decide +kernel
theorem dL_does_223 : decode cL_does 223 = .ok (.iload_n 1, 1) := by decide +kernel
theorem dL_does_224 : decode cL_does 224 = .ok (.iconst 4, 1) := by decide +kernel
theorem dL_does_225 : decode cL_does 225 = .ok (.ishr, 1) := by decide +kernel
theorem dL_does_226 : decode cL_does 226 = .ok (.sipush 351, 3) := by decide +kernel
theorem dL_does_229 : decode cL_does 229 = .ok (.invokestatic 14, 3) := by decide +kernel
theorem dL_does_232 : decode cL_does 232 = .ok (.iadd, 1) := by decide +kernel
theorem dL_does_233 : decode cL_does 233 = .ok (.invokevirtual 50, 3) := by decide +kernel
theorem dL_does_236 : decode cL_does 236 = .ok (.ireturn, 1) := by decide +kernel
theorem dL_does_237 : decode cL_does 237 = .ok (.iconst 0, 1) := by decide +kernel
theorem dL_does_238 : decode cL_does 238 = .ok (.ireturn, 1) := by decide +kernel
theorem dL_days_0 : decode cL_days 0 = .ok (.iload_n 0, 1) := by decide +kernel
theorem dL_days_1 : decode cL_days 1 = .ok (.iconst 4, 1) := by decide +kernel
theorem dL_days_2 : decode cL_days 2 = .ok (.irem, 1) := by decide +kernel
theorem dL_days_3 : decode cL_days 3 = .ok (.ifCond .ne 9, 3) := by decide +kernel
theorem dL_days_6 : decode cL_days 6 = .ok (.sipush 366, 3) := by decide +kernel
theorem dL_days_9 : decode cL_days 9 = .ok (.goto 6, 3) := by decide +kernel
theorem dL_days_12 : decode cL_days 12 = .ok (.sipush 365, 3) := by decide +kernel
theorem dL_days_15 : decode cL_days 15 = .ok (.ireturn, 1) := by decide +kernel
theorem dL_areNotchesSo_0 : decode cL_areNotchesSo 0 = .ok (.iconst 0, 1) := by decide +kernel
theorem dL_areNotchesSo_1 : decode cL_areNotchesSo 1 = .ok (.istore_n 3, 1) := by decide +kernel
theorem dL_areNotchesSo_2 : decode cL_areNotchesSo 2 = .ok (.iconst (-1), 1) := by decide +kernel
theorem dL_areNotchesSo_3 : decode cL_areNotchesSo 3 = .ok (.istore 4, 2) := by decide +kernel
theorem dL_areNotchesSo_5 : decode cL_areNotchesSo 5 = .ok (.iconst 1, 1) := by decide +kernel
theorem dL_areNotchesSo_6 : decode cL_areNotchesSo 6 = .ok (.istore 5, 2) := by decide +kernel
theorem dL_areNotchesSo_8 : decode cL_areNotchesSo 8 = .ok (.iconst 0, 1) := by decide +kernel
theorem dL_areNotchesSo_9 : decode cL_areNotchesSo 9 = .ok (.istore 6, 2) := by decide +kernel
theorem dL_areNotchesSo_11 : decode cL_areNotchesSo 11 = .ok (.iload 6, 2) := by decide +kernel
theorem dL_areNotchesSo_13 : decode cL_areNotchesSo 13 = .ok (.aload_n 0, 1) := by decide +kernel
theorem dL_areNotchesSo_14 : decode cL_areNotchesSo 14 = .ok (.iconst 0, 1) := by decide +kernel
theorem dL_areNotchesSo_15 : decode cL_areNotchesSo 15 = .ok (.invokevirtual 24, 3) := by decide +kernel
theorem dL_areNotchesSo_18 : decode cL_areNotchesSo 18 = .ok (.if_icmp .ge 431, 3) := by decide +kernel
theorem dL_areNotchesSo_21 : decode cL_areNotchesSo 21 = .ok (.aload_n 0, 1) := by decide +kernel
theorem dL_areNotchesSo_22 : decode cL_areNotchesSo 22 = .ok (.iload 6, 2) := by decide +kernel
theorem dL_areNotchesSo_24 : decode cL_areNotchesSo 24 = .ok (.iload_n 1, 1) := by decide +kernel
theorem dL_areNotchesSo_25 : decode cL_areNotchesSo 25 = .ok (.iload_n 2, 1) := by decide +kernel
theorem dL_areNotchesSo_26 : decode cL_areNotchesSo 26 = .ok (.iconst 1, 1) := by decide +kernel
theorem dL_areNotchesSo_27 : decode cL_areNotchesSo 27 = .ok (.invokevirtual 53, 3) := by decide +kernel
theorem dL_areNotchesSo_30 : decode cL_areNotchesSo 30 = .ok (.istore 7, 2) := by decide +kernel
theorem dL_areNotchesSo_32 : decode cL_areNotchesSo 32 = .ok (.aload_n 0, 1) := by decide +kernel
theorem dL_areNotchesSo_33 : decode cL_areNotchesSo 33 = .ok (.iload 6, 2) := by decide +kernel
theorem dL_areNotchesSo_35 : decode cL_areNotchesSo 35 = .ok (.iload_n 1, 1) := by decide +kernel
theorem dL_areNotchesSo_36 : decode cL_areNotchesSo 36 = .ok (.iload_n 2, 1) := by decide +kernel
theorem dL_areNotchesSo_37 : decode cL_areNotchesSo 37 = .ok (.iconst 0, 1) := by decide +kernel
theorem dL_areNotchesSo_38 : decode cL_areNotchesSo 38 = .ok (.invokevirtual 53, 3) := by decide +kernel
theorem dL_areNotchesSo_41 : decode cL_areNotchesSo 41 = .ok (.istore 8, 2) := by decide +kernel
theorem dL_areNotchesSo_43 : decode cL_areNotchesSo 43 = .ok (.aload_n 0, 1) := by decide +kernel
theorem dL_areNotchesSo_44 : decode cL_areNotchesSo 44 = .ok (.iload 6, 2) := by decide +kernel
theorem dL_areNotchesSo_46 : decode cL_areNotchesSo 46 = .ok (.iconst 0, 1) := by decide +kernel
theorem dL_areNotchesSo_47 : decode cL_areNotchesSo 47 = .ok (.invokevirtual 57, 3) := by decide +kernel
theorem dL_areNotchesSo_50 : decode cL_areNotchesSo 50 = .ok (.istore 9, 2) := by decide +kernel
theorem dL_areNotchesSo_52 : decode cL_areNotchesSo 52 = .ok (.iload 7, 2) := by decide +kernel
theorem dL_areNotchesSo_54 : decode cL_areNotchesSo 54 = .ok (.ifCond .lt 16, 3) := by decide +kernel
theorem dL_areNotchesSo_57 : decode cL_areNotchesSo 57 = .ok (.iload 7, 2) := by decide +kernel
theorem dL_areNotchesSo_59 : decode cL_areNotchesSo 59 = .ok (.iload_n 1, 1) := by decide +kernel
theorem dL_areNotchesSo_60 : decode cL_areNotchesSo 60 = .ok (.invokestatic 60, 3) := by decide +kernel
theorem dL_areNotchesSo_63 : decode cL_areNotchesSo 63 = .ok (.if_icmp .ge 7, 3) := by decide +kernel
theorem dL_areNotchesSo_66 : decode cL_areNotchesSo 66 = .ok (.iconst 1, 1) := by decide +kernel
theorem dL_areNotchesSo_67 : decode cL_areNotchesSo 67 = .ok (.goto 4, 3) := by decide +kernel
theorem dL_areNotchesSo_70 : decode cL_areNotchesSo 70 = .ok (.iconst 0, 1) := by decide +kernel
theorem dL_areNotchesSo_71 : decode cL_areNotchesSo 71 = .ok (.istore 10, 2) := by decide +kernel
theorem dL_areNotchesSo_73 : decode cL_areNotchesSo 73 = .ok (.iload 5, 2) := by decide +kernel
theorem dL_areNotchesSo_75 : decode cL_areNotchesSo 75 = .ok (.ifCond .eq 84, 3) := by decide +kernel
theorem dL_areNotchesSo_78 : decode cL_areNotchesSo 78 = .ok (.iload 7, 2) := by decide +kernel
theorem dL_areNotchesSo_80 : decode cL_areNotchesSo 80 = .ok (.iconst (-1), 1) := by decide +kernel
theorem dL_areNotchesSo_81 : decode cL_areNotchesSo 81 = .ok (.if_icmp .ne 12, 3) := by decide +kernel
theorem dL_areNotchesSo_84 : decode cL_areNotchesSo 84 = .ok (.iload 8, 2) := by decide +kernel
theorem dL_areNotchesSo_86 : decode cL_areNotchesSo 86 = .ok (.iconst (-1), 1) := by decide +kernel
theorem dL_areNotchesSo_87 : decode cL_areNotchesSo 87 = .ok (.if_icmp .ne 72, 3) := by decide +kernel
theorem dL_areNotchesSo_90 : decode cL_areNotchesSo 90 = .ok (.goto 30, 3) := by decide +kernel
theorem dL_areNotchesSo_93 : decode cL_areNotchesSo 93 = .ok (.iload 10, 2) := by decide +kernel
theorem dL_areNotchesSo_95 : decode cL_areNotchesSo 95 = .ok (.ifCond .eq 64, 3) := by decide +kernel
theorem dL_areNotchesSo_98 : decode cL_areNotchesSo 98 = .ok (.iload 8, 2) := by decide +kernel
theorem dL_areNotchesSo_100 : decode cL_areNotchesSo 100 = .ok (.iconst (-1), 1) := by decide +kernel
theorem dL_areNotchesSo_101 : decode cL_areNotchesSo 101 = .ok (.if_icmp .eq 19, 3) := by decide +kernel
theorem dL_areNotchesSo_104 : decode cL_areNotchesSo 104 = .ok (.iload 8, 2) := by decide +kernel
theorem dL_areNotchesSo_106 : decode cL_areNotchesSo 106 = .ok (.iload 7, 2) := by decide +kernel
theorem dL_areNotchesSo_108 : decode cL_areNotchesSo 108 = .ok (.if_icmp .lt 51, 3) := by decide +kernel
theorem dL_areNotchesSo_111 : decode cL_areNotchesSo 111 = .ok (.iload 8, 2) := by decide +kernel
theorem dL_areNotchesSo_113 : decode cL_areNotchesSo 113 = .ok (.iload_n 1, 1) := by decide +kernel
theorem dL_areNotchesSo_114 : decode cL_areNotchesSo 114 = .ok (.invokestatic 60, 3) := by decide +kernel
theorem dL_areNotchesSo_117 : decode cL_areNotchesSo 117 = .ok (.if_icmp .ge 42, 3) := by decide +kernel
theorem dL_areNotchesSo_120 : decode cL_areNotchesSo 120 = .ok (.iload 9, 2) := by decide +kernel
theorem dL_areNotchesSo_122 : decode cL_areNotchesSo 122 = .ok (.iconst 1, 1) := by decide +kernel
theorem dL_areNotchesSo_123 : decode cL_areNotchesSo 123 = .ok (.if_icmp .eq 9, 3) := by decide +kernel
theorem dL_areNotchesSo_126 : decode cL_areNotchesSo 126 = .ok (.iload 9, 2) := by decide +kernel
theorem dL_areNotchesSo_128 : decode cL_areNotchesSo 128 = .ok (.iconst 2, 1) := by decide +kernel
theorem dL_areNotchesSo_129 : decode cL_areNotchesSo 129 = .ok (.if_icmp .ne 26, 3) := by decide +kernel
theorem dL_areNotchesSo_132 : decode cL_areNotchesSo 132 = .ok (.iload 7, 2) := by decide +kernel
theorem dL_areNotchesSo_134 : decode cL_areNotchesSo 134 = .ok (.ifCond .lt 21, 3) := by decide +kernel
theorem dL_areNotchesSo_137 : decode cL_areNotchesSo 137 = .ok (.aload_n 0, 1) := by decide +kernel
theorem dL_areNotchesSo_138 : decode cL_areNotchesSo 138 = .ok (.iload_n 1, 1) := by decide +kernel
theorem dL_areNotchesSo_139 : decode cL_areNotchesSo 139 = .ok (.iload 7, 2) := by decide +kernel
theorem dL_areNotchesSo_141 : decode cL_areNotchesSo 141 = .ok (.iconst 0, 1) := by decide +kernel
theorem dL_areNotchesSo_142 : decode cL_areNotchesSo 142 = .ok (.invokevirtual 63, 3) := by decide +kernel
theorem dL_areNotchesSo_145 : decode cL_areNotchesSo 145 = .ok (.aload_n 0, 1) := by decide +kernel
theorem dL_areNotchesSo_146 : decode cL_areNotchesSo 146 = .ok (.iload 6, 2) := by decide +kernel
theorem dL_areNotchesSo_148 : decode cL_areNotchesSo 148 = .ok (.iconst 3, 1) := by decide +kernel
theorem dL_areNotchesSo_149 : decode cL_areNotchesSo 149 = .ok (.invokevirtual 57, 3) := by decide +kernel
theorem dL_areNotchesSo_152 : decode cL_areNotchesSo 152 = .ok (.if_icmp .ne 7, 3) := by decide +kernel
theorem dL_areNotchesSo_155 : decode cL_areNotchesSo 155 = .ok (.iconst 1, 1) := by decide +kernel
theorem dL_areNotchesSo_156 : decode cL_areNotchesSo 156 = .ok (.goto 4, 3) := by decide +kernel
theorem dL_areNotchesSo_159 : decode cL_areNotchesSo 159 = .ok (.iconst 0, 1) := by decide +kernel
theorem dL_areNotchesSo_160 : decode cL_areNotchesSo 160 = .ok (.istore 5, 2) := by decide +kernel
theorem dL_areNotchesSo_162 : decode cL_areNotchesSo 162 = .ok (.iload 5, 2) := by decide +kernel
theorem dL_areNotchesSo_164 : decode cL_areNotchesSo 164 = .ok (.ifCond .eq 31, 3) := by decide +kernel
theorem dL_areNotchesSo_167 : decode cL_areNotchesSo 167 = .ok (.iload 9, 2) := by decide +kernel
theorem dL_areNotchesSo_169 : decode cL_areNotchesSo 169 = .ok (.iconst 1, 1) := by decide +kernel
theorem dL_areNotchesSo_170 : decode cL_areNotchesSo 170 = .ok (.if_icmp .gt 21, 3) := by decide +kernel
theorem dL_areNotchesSo_173 : decode cL_areNotchesSo 173 = .ok (.aload_n 0, 1) := by decide +kernel
theorem dL_areNotchesSo_174 : decode cL_areNotchesSo 174 = .ok (.iload 6, 2) := by decide +kernel
theorem dL_areNotchesSo_176 : decode cL_areNotchesSo 176 = .ok (.iload_n 1, 1) := by decide +kernel
theorem dL_areNotchesSo_177 : decode cL_areNotchesSo 177 = .ok (.iload_n 2, 1) := by decide +kernel
theorem dL_areNotchesSo_178 : decode cL_areNotchesSo 178 = .ok (.iconst 1, 1) := by decide +kernel
theorem dL_areNotchesSo_179 : decode cL_areNotchesSo 179 = .ok (.iadd, 1) := by decide +kernel
theorem dL_areNotchesSo_180 : decode cL_areNotchesSo 180 = .ok (.iconst 3, 1) := by decide +kernel
theorem dL_areNotchesSo_181 : decode cL_areNotchesSo 181 = .ok (.irem, 1) := by decide +kernel
theorem dL_areNotchesSo_182 : decode cL_areNotchesSo 182 = .ok (.iconst 1, 1) := by decide +kernel
theorem dL_areNotchesSo_183 : decode cL_areNotchesSo 183 = .ok (.invokevirtual 53, 3) := by decide +kernel
theorem dL_areNotchesSo_186 : decode cL_areNotchesSo 186 = .ok (.iload 7, 2) := by decide +kernel
theorem dL_areNotchesSo_188 : decode cL_areNotchesSo 188 = .ok (.if_icmp .ne 7, 3) := by decide +kernel
theorem dL_areNotchesSo_191 : decode cL_areNotchesSo 191 = .ok (.iconst 1, 1) := by decide +kernel
theorem dL_areNotchesSo_192 : decode cL_areNotchesSo 192 = .ok (.goto 4, 3) := by decide +kernel
theorem dL_areNotchesSo_195 : decode cL_areNotchesSo 195 = .ok (.iconst 0, 1) := by decide +kernel
theorem dL_areNotchesSo_196 : decode cL_areNotchesSo 196 = .ok (.istore 5, 2) := by decide +kernel
theorem dL_areNotchesSo_198 : decode cL_areNotchesSo 198 = .ok (.iconst 0, 1) := by decide +kernel
theorem dL_areNotchesSo_199 : decode cL_areNotchesSo 199 = .ok (.istore 11, 2) := by decide +kernel
theorem dL_areNotchesSo_201 : decode cL_areNotchesSo 201 = .ok (.iload 11, 2) := by decide +kernel
theorem dL_areNotchesSo_203 : decode cL_areNotchesSo 203 = .ok (.iload 6, 2) := by decide +kernel
theorem dL_areNotchesSo_205 : decode cL_areNotchesSo 205 = .ok (.if_icmp .ge 41, 3) := by decide +kernel
theorem dL_areNotchesSo_208 : decode cL_areNotchesSo 208 = .ok (.iload 5, 2) := by decide +kernel
theorem dL_areNotchesSo_210 : decode cL_areNotchesSo 210 = .ok (.ifCond .eq 27, 3) := by decide +kernel
theorem dL_areNotchesSo_213 : decode cL_areNotchesSo 213 = .ok (.iload 8, 2) := by decide +kernel
theorem dL_areNotchesSo_215 : decode cL_areNotchesSo 215 = .ok (.iconst (-1), 1) := by decide +kernel
theorem dL_areNotchesSo_216 : decode cL_areNotchesSo 216 = .ok (.if_icmp .eq 17, 3) := by decide +kernel
theorem dL_areNotchesSo_219 : decode cL_areNotchesSo 219 = .ok (.iload 8, 2) := by decide +kernel
theorem dL_areNotchesSo_221 : decode cL_areNotchesSo 221 = .ok (.aload_n 0, 1) := by decide +kernel
theorem dL_areNotchesSo_222 : decode cL_areNotchesSo 222 = .ok (.iload 11, 2) := by decide +kernel
theorem dL_areNotchesSo_224 : decode cL_areNotchesSo 224 = .ok (.iload_n 1, 1) := by decide +kernel
theorem dL_areNotchesSo_225 : decode cL_areNotchesSo 225 = .ok (.iload_n 2, 1) := by decide +kernel
theorem dL_areNotchesSo_226 : decode cL_areNotchesSo 226 = .ok (.iconst 0, 1) := by decide +kernel
theorem dL_areNotchesSo_227 : decode cL_areNotchesSo 227 = .ok (.invokevirtual 53, 3) := by decide +kernel
theorem dL_areNotchesSo_230 : decode cL_areNotchesSo 230 = .ok (.if_icmp .eq 7, 3) := by decide +kernel
theorem dL_areNotchesSo_233 : decode cL_areNotchesSo 233 = .ok (.iconst 1, 1) := by decide +kernel
theorem dL_areNotchesSo_234 : decode cL_areNotchesSo 234 = .ok (.goto 4, 3) := by decide +kernel
theorem dL_areNotchesSo_237 : decode cL_areNotchesSo 237 = .ok (.iconst 0, 1) := by decide +kernel
theorem dL_areNotchesSo_238 : decode cL_areNotchesSo 238 = .ok (.istore 5, 2) := by decide +kernel
theorem dL_areNotchesSo_240 : decode cL_areNotchesSo 240 = .ok (.iinc 11 1, 3) := by decide +kernel
theorem dL_areNotchesSo_243 : decode cL_areNotchesSo 243 = .ok (.goto (-42), 3) := by decide +kernel
theorem dL_areNotchesSo_246 : decode cL_areNotchesSo 246 = .ok (.iload_n 3, 1) := by decide +kernel
theorem dL_areNotchesSo_247 : decode cL_areNotchesSo 247 = .ok (.iload 8, 2) := by decide +kernel
theorem dL_areNotchesSo_249 : decode cL_areNotchesSo 249 = .ok (.iconst (-1), 1) := by decide +kernel
theorem dL_areNotchesSo_250 : decode cL_areNotchesSo 250 = .ok (.if_icmp .eq 14, 3) := by decide +kernel
theorem dL_areNotchesSo_253 : decode cL_areNotchesSo 253 = .ok (.iload 8, 2) := by decide +kernel
theorem dL_areNotchesSo_255 : decode cL_areNotchesSo 255 = .ok (.iload 7, 2) := by decide +kernel
theorem dL_areNotchesSo_257 : decode cL_areNotchesSo 257 = .ok (.if_icmp .eq 7, 3) := by decide +kernel
theorem dL_areNotchesSo_260 : decode cL_areNotchesSo 260 = .ok (.iconst 1, 1) := by decide +kernel
theorem dL_areNotchesSo_261 : decode cL_areNotchesSo 261 = .ok (.goto 4, 3) := by decide +kernel
theorem dL_areNotchesSo_264 : decode cL_areNotchesSo 264 = .ok (.iconst 0, 1) := by decide +kernel
theorem dL_areNotchesSo_265 : decode cL_areNotchesSo 265 = .ok (.iadd, 1) := by decide +kernel
theorem dL_areNotchesSo_266 : decode cL_areNotchesSo 266 = .ok (.istore_n 3, 1) := by decide +kernel
theorem dL_areNotchesSo_267 : decode cL_areNotchesSo 267 = .ok (.iload 7, 2) := by decide +kernel
theorem dL_areNotchesSo_269 : decode cL_areNotchesSo 269 = .ok (.ifCond .lt 30, 3) := by decide +kernel
theorem dL_areNotchesSo_272 : decode cL_areNotchesSo 272 = .ok (.iload 4, 2) := by decide +kernel
theorem dL_areNotchesSo_274 : decode cL_areNotchesSo 274 = .ok (.ifCond .lt 20, 3) := by decide +kernel
theorem dL_areNotchesSo_277 : decode cL_areNotchesSo 277 = .ok (.aload_n 0, 1) := by decide +kernel
theorem dL_areNotchesSo_278 : decode cL_areNotchesSo 278 = .ok (.iload 6, 2) := by decide +kernel
theorem dL_areNotchesSo_280 : decode cL_areNotchesSo 280 = .ok (.iconst 1, 1) := by decide +kernel
theorem dL_areNotchesSo_281 : decode cL_areNotchesSo 281 = .ok (.invokevirtual 57, 3) := by decide +kernel
theorem dL_areNotchesSo_284 : decode cL_areNotchesSo 284 = .ok (.aload_n 0, 1) := by decide +kernel
theorem dL_areNotchesSo_285 : decode cL_areNotchesSo 285 = .ok (.iload 4, 2) := by decide +kernel
theorem dL_areNotchesSo_287 : decode cL_areNotchesSo 287 = .ok (.iconst 1, 1) := by decide +kernel
theorem dL_areNotchesSo_288 : decode cL_areNotchesSo 288 = .ok (.invokevirtual 57, 3) := by decide +kernel
theorem dL_areNotchesSo_291 : decode cL_areNotchesSo 291 = .ok (.if_icmp .le 8, 3) := by decide +kernel
theorem dL_areNotchesSo_294 : decode cL_areNotchesSo 294 = .ok (.iload 6, 2) := by decide +kernel
theorem dL_areNotchesSo_296 : decode cL_areNotchesSo 296 = .ok (.goto 5, 3) := by decide +kernel
theorem dL_areNotchesSo_299 : decode cL_areNotchesSo 299 = .ok (.iload 4, 2) := by decide +kernel
theorem dL_areNotchesSo_301 : decode cL_areNotchesSo 301 = .ok (.istore 4, 2) := by decide +kernel
theorem dL_areNotchesSo_303 : decode cL_areNotchesSo 303 = .ok (.iload 7, 2) := by decide +kernel
theorem dL_areNotchesSo_305 : decode cL_areNotchesSo 305 = .ok (.istore 11, 2) := by decide +kernel
theorem dL_areNotchesSo_307 : decode cL_areNotchesSo 307 = .ok (.iload 11, 2) := by decide +kernel
theorem dL_areNotchesSo_309 : decode cL_areNotchesSo 309 = .ok (.iload 8, 2) := by decide +kernel
theorem dL_areNotchesSo_311 : decode cL_areNotchesSo 311 = .ok (.if_icmp .ge 132, 3) := by decide +kernel
theorem dL_areNotchesSo_314 : decode cL_areNotchesSo 314 = .ok (.iload 7, 2) := by decide +kernel
theorem dL_areNotchesSo_316 : decode cL_areNotchesSo 316 = .ok (.ifCond .lt 127, 3) := by decide +kernel
theorem dL_areNotchesSo_319 : decode cL_areNotchesSo 319 = .ok (.iconst 0, 1) := by decide +kernel
theorem dL_areNotchesSo_320 : decode cL_areNotchesSo 320 = .ok (.istore 12, 2) := by decide +kernel
theorem dL_areNotchesSo_322 : decode cL_areNotchesSo 322 = .ok (.iconst 0, 1) := by decide +kernel
theorem dL_areNotchesSo_323 : decode cL_areNotchesSo 323 = .ok (.istore 13, 2) := by decide +kernel
theorem dL_areNotchesSo_325 : decode cL_areNotchesSo 325 = .ok (.iload 13, 2) := by decide +kernel
theorem dL_areNotchesSo_327 : decode cL_areNotchesSo 327 = .ok (.aload_n 0, 1) := by decide +kernel
theorem dL_areNotchesSo_328 : decode cL_areNotchesSo 328 = .ok (.iconst 0, 1) := by decide +kernel
theorem dL_areNotchesSo_329 : decode cL_areNotchesSo 329 = .ok (.invokevirtual 24, 3) := by decide +kernel
theorem dL_areNotchesSo_332 : decode cL_areNotchesSo 332 = .ok (.if_icmp .ge 88, 3) := by decide +kernel
theorem dL_areNotchesSo_335 : decode cL_areNotchesSo 335 = .ok (.aload_n 0, 1) := by decide +kernel
theorem dL_areNotchesSo_336 : decode cL_areNotchesSo 336 = .ok (.iload 13, 2) := by decide +kernel
theorem dL_areNotchesSo_338 : decode cL_areNotchesSo 338 = .ok (.iconst 1, 1) := by decide +kernel
theorem dL_areNotchesSo_339 : decode cL_areNotchesSo 339 = .ok (.invokevirtual 57, 3) := by decide +kernel
theorem dL_areNotchesSo_342 : decode cL_areNotchesSo 342 = .ok (.aload_n 0, 1) := by decide +kernel
theorem dL_areNotchesSo_343 : decode cL_areNotchesSo 343 = .ok (.iload 6, 2) := by decide +kernel
theorem dL_areNotchesSo_345 : decode cL_areNotchesSo 345 = .ok (.iconst 1, 1) := by decide +kernel
theorem dL_areNotchesSo_346 : decode cL_areNotchesSo 346 = .ok (.invokevirtual 57, 3) := by decide +kernel
theorem dL_areNotchesSo_349 : decode cL_areNotchesSo 349 = .ok (.if_icmp .gt 27, 3) := by decide +kernel
theorem dL_areNotchesSo_352 : decode cL_areNotchesSo 352 = .ok (.aload_n 0, 1) := by decide +kernel
theorem dL_areNotchesSo_353 : decode cL_areNotchesSo 353 = .ok (.iload 13, 2) := by decide +kernel
theorem dL_areNotchesSo_355 : decode cL_areNotchesSo 355 = .ok (.iconst 1, 1) := by decide +kernel
theorem dL_areNotchesSo_356 : decode cL_areNotchesSo 356 = .ok (.invokevirtual 57, 3) := by decide +kernel
theorem dL_areNotchesSo_359 : decode cL_areNotchesSo 359 = .ok (.aload_n 0, 1) := by decide +kernel
theorem dL_areNotchesSo_360 : decode cL_areNotchesSo 360 = .ok (.iload 6, 2) := by decide +kernel
theorem dL_areNotchesSo_362 : decode cL_areNotchesSo 362 = .ok (.iconst 1, 1) := by decide +kernel
theorem dL_areNotchesSo_363 : decode cL_areNotchesSo 363 = .ok (.invokevirtual 57, 3) := by decide +kernel
theorem dL_areNotchesSo_366 : decode cL_areNotchesSo 366 = .ok (.if_icmp .ne 14, 3) := by decide +kernel
theorem dL_areNotchesSo_369 : decode cL_areNotchesSo 369 = .ok (.iload 13, 2) := by decide +kernel
theorem dL_areNotchesSo_371 : decode cL_areNotchesSo 371 = .ok (.iload 6, 2) := by decide +kernel
theorem dL_areNotchesSo_373 : decode cL_areNotchesSo 373 = .ok (.if_icmp .ge 7, 3) := by decide +kernel
theorem dL_areNotchesSo_376 : decode cL_areNotchesSo 376 = .ok (.iconst 1, 1) := by decide +kernel
theorem dL_areNotchesSo_377 : decode cL_areNotchesSo 377 = .ok (.goto 4, 3) := by decide +kernel
theorem dL_areNotchesSo_380 : decode cL_areNotchesSo 380 = .ok (.iconst 0, 1) := by decide +kernel
theorem dL_areNotchesSo_381 : decode cL_areNotchesSo 381 = .ok (.istore 14, 2) := by decide +kernel
theorem dL_areNotchesSo_383 : decode cL_areNotchesSo 383 = .ok (.iload 12, 2) := by decide +kernel
theorem dL_areNotchesSo_385 : decode cL_areNotchesSo 385 = .ok (.ifCond .ne 22, 3) := by decide +kernel
theorem dL_areNotchesSo_388 : decode cL_areNotchesSo 388 = .ok (.iload 14, 2) := by decide +kernel
theorem dL_areNotchesSo_390 : decode cL_areNotchesSo 390 = .ok (.ifCond .eq 21, 3) := by decide +kernel
theorem dL_areNotchesSo_393 : decode cL_areNotchesSo 393 = .ok (.aload_n 0, 1) := by decide +kernel
theorem dL_areNotchesSo_394 : decode cL_areNotchesSo 394 = .ok (.iload 13, 2) := by decide +kernel
theorem dL_areNotchesSo_396 : decode cL_areNotchesSo 396 = .ok (.iload_n 1, 1) := by decide +kernel
theorem dL_areNotchesSo_397 : decode cL_areNotchesSo 397 = .ok (.iload_n 2, 1) := by decide +kernel
theorem dL_areNotchesSo_398 : decode cL_areNotchesSo 398 = .ok (.iconst 0, 1) := by decide +kernel
theorem dL_areNotchesSo_399 : decode cL_areNotchesSo 399 = .ok (.invokevirtual 53, 3) := by decide +kernel
theorem dL_areNotchesSo_402 : decode cL_areNotchesSo 402 = .ok (.iload 11, 2) := by decide +kernel
theorem dL_areNotchesSo_404 : decode cL_areNotchesSo 404 = .ok (.if_icmp .ne 7, 3) := by decide +kernel
theorem dL_areNotchesSo_407 : decode cL_areNotchesSo 407 = .ok (.iconst 1, 1) := by decide +kernel
theorem dL_areNotchesSo_408 : decode cL_areNotchesSo 408 = .ok (.goto 4, 3) := by decide +kernel
theorem dL_areNotchesSo_411 : decode cL_areNotchesSo 411 = .ok (.iconst 0, 1) := by decide +kernel
theorem dL_areNotchesSo_412 : decode cL_areNotchesSo 412 = .ok (.istore 12, 2) := by decide +kernel
theorem dL_areNotchesSo_414 : decode cL_areNotchesSo 414 = .ok (.iinc 13 1, 3) := by decide +kernel
theorem dL_areNotchesSo_417 : decode cL_areNotchesSo 417 = .ok (.goto (-92), 3) := by decide +kernel
theorem dL_areNotchesSo_420 : decode cL_areNotchesSo 420 = .ok (.iload 5, 2) := by decide +kernel
theorem dL_areNotchesSo_422 : decode cL_areNotchesSo 422 = .ok (.ifCond .eq 12, 3) := by decide +kernel
theorem dL_areNotchesSo_425 : decode cL_areNotchesSo 425 = .ok (.iload 12, 2) := by decide +kernel
theorem dL_areNotchesSo_427 : decode cL_areNotchesSo 427 = .ok (.ifCond .eq 7, 3) := by decide +kernel
theorem dL_areNotchesSo_430 : decode cL_areNotchesSo 430 = .ok (.iconst 1, 1) := by decide +kernel
theorem dL_areNotchesSo_431 : decode cL_areNotchesSo 431 = .ok (.goto 4, 3) := by decide +kernel
theorem dL_areNotchesSo_434 : decode cL_areNotchesSo 434 = .ok (.iconst 0, 1) := by decide +kernel
theorem dL_areNotchesSo_435 : decode cL_areNotchesSo 435 = .ok (.istore 5, 2) := by decide +kernel
theorem dL_areNotchesSo_437 : decode cL_areNotchesSo 437 = .ok (.iinc 11 1, 3) := by decide +kernel
theorem dL_areNotchesSo_440 : decode cL_areNotchesSo 440 = .ok (.goto (-133), 3) := by decide +kernel
theorem dL_areNotchesSo_443 : decode cL_areNotchesSo 443 = .ok (.iinc 6 1, 3) := by decide +kernel
theorem dL_areNotchesSo_446 : decode cL_areNotchesSo 446 = .ok (.goto (-435), 3) := by decide +kernel
theorem dL_areNotchesSo_449 : decode cL_areNotchesSo 449 = .ok (.iload 5, 2) := by decide +kernel
theorem dL_areNotchesSo_451 : decode cL_areNotchesSo 451 = .ok (.ifCond .eq 43, 3) := by decide +kernel
theorem dL_areNotchesSo_454 : decode cL_areNotchesSo 454 = .ok (.iload_n 3, 1) := by decide +kernel
theorem dL_areNotchesSo_455 : decode cL_areNotchesSo 455 = .ok (.aload_n 0, 1) := by decide +kernel
theorem dL_areNotchesSo_456 : decode cL_areNotchesSo 456 = .ok (.iload_n 1, 1) := by decide +kernel
theorem dL_areNotchesSo_457 : decode cL_areNotchesSo 457 = .ok (.iload_n 2, 1) := by decide +kernel
theorem dL_areNotchesSo_458 : decode cL_areNotchesSo 458 = .ok (.invokevirtual 67, 3) := by decide +kernel
theorem dL_areNotchesSo_461 : decode cL_areNotchesSo 461 = .ok (.if_icmp .ne 33, 3) := by decide +kernel
theorem dL_areNotchesSo_464 : decode cL_areNotchesSo 464 = .ok (.iload 4, 2) := by decide +kernel
theorem dL_areNotchesSo_466 : decode cL_areNotchesSo 466 = .ok (.ifCond .lt 24, 3) := by decide +kernel
theorem dL_areNotchesSo_469 : decode cL_areNotchesSo 469 = .ok (.aload_n 0, 1) := by decide +kernel
theorem dL_areNotchesSo_470 : decode cL_areNotchesSo 470 = .ok (.iload 4, 2) := by decide +kernel
theorem dL_areNotchesSo_472 : decode cL_areNotchesSo 472 = .ok (.iload_n 1, 1) := by decide +kernel
theorem dL_areNotchesSo_473 : decode cL_areNotchesSo 473 = .ok (.iload_n 2, 1) := by decide +kernel
theorem dL_areNotchesSo_474 : decode cL_areNotchesSo 474 = .ok (.iconst 0, 1) := by decide +kernel
theorem dL_areNotchesSo_475 : decode cL_areNotchesSo 475 = .ok (.invokevirtual 53, 3) := by decide +kernel
theorem dL_areNotchesSo_478 : decode cL_areNotchesSo 478 = .ok (.aload_n 0, 1) := by decide +kernel
theorem dL_areNotchesSo_479 : decode cL_areNotchesSo 479 = .ok (.iload 4, 2) := by decide +kernel
theorem dL_areNotchesSo_481 : decode cL_areNotchesSo 481 = .ok (.iload_n 1, 1) := by decide +kernel
theorem dL_areNotchesSo_482 : decode cL_areNotchesSo 482 = .ok (.iload_n 2, 1) := by decide +kernel
theorem dL_areNotchesSo_483 : decode cL_areNotchesSo 483 = .ok (.iconst 1, 1) := by decide +kernel
theorem dL_areNotchesSo_484 : decode cL_areNotchesSo 484 = .ok (.invokevirtual 53, 3) := by decide +kernel
theorem dL_areNotchesSo_487 : decode cL_areNotchesSo 487 = .ok (.if_icmp .ne 7, 3) := by decide +kernel
theorem dL_areNotchesSo_490 : decode cL_areNotchesSo 490 = .ok (.iconst 1, 1) := by decide +kernel
theorem dL_areNotchesSo_491 : decode cL_areNotchesSo 491 = .ok (.goto 4, 3) := by decide +kernel
theorem dL_areNotchesSo_494 : decode cL_areNotchesSo 494 = .ok (.iconst 0, 1) := by decide +kernel
theorem dL_areNotchesSo_495 : decode cL_areNotchesSo 495 = .ok (.ireturn, 1) := by decide +kernel
theorem dL_areQuarrelsSo_0 : decode cL_areQuarrelsSo 0 = .ok (.iconst 0, 1) := by decide +kernel
theorem dL_areQuarrelsSo_1 : decode cL_areQuarrelsSo 1 = .ok (.istore_n 2, 1) := by decide +kernel
theorem dL_areQuarrelsSo_2 : decode cL_areQuarrelsSo 2 = .ok (.iconst 1, 1) := by decide +kernel
theorem dL_areQuarrelsSo_3 : decode cL_areQuarrelsSo 3 = .ok (.istore_n 3, 1) := by decide +kernel
theorem dL_areQuarrelsSo_4 : decode cL_areQuarrelsSo 4 = .ok (.iconst 0, 1) := by decide +kernel
theorem dL_areQuarrelsSo_5 : decode cL_areQuarrelsSo 5 = .ok (.istore 4, 2) := by decide +kernel
theorem dL_areQuarrelsSo_7 : decode cL_areQuarrelsSo 7 = .ok (.iload 4, 2) := by decide +kernel
theorem dL_areQuarrelsSo_9 : decode cL_areQuarrelsSo 9 = .ok (.aload_n 0, 1) := by decide +kernel
theorem dL_areQuarrelsSo_10 : decode cL_areQuarrelsSo 10 = .ok (.iconst 0, 1) := by decide +kernel
theorem dL_areQuarrelsSo_11 : decode cL_areQuarrelsSo 11 = .ok (.invokevirtual 24, 3) := by decide +kernel
theorem dL_areQuarrelsSo_14 : decode cL_areQuarrelsSo 14 = .ok (.if_icmp .ge 98, 3) := by decide +kernel
theorem dL_areQuarrelsSo_17 : decode cL_areQuarrelsSo 17 = .ok (.aload_n 0, 1) := by decide +kernel
theorem dL_areQuarrelsSo_18 : decode cL_areQuarrelsSo 18 = .ok (.iload 4, 2) := by decide +kernel
theorem dL_areQuarrelsSo_20 : decode cL_areQuarrelsSo 20 = .ok (.iload_n 1, 1) := by decide +kernel
theorem dL_areQuarrelsSo_21 : decode cL_areQuarrelsSo 21 = .ok (.iconst 0, 1) := by decide +kernel
theorem dL_areQuarrelsSo_22 : decode cL_areQuarrelsSo 22 = .ok (.iconst 0, 1) := by decide +kernel
theorem dL_areQuarrelsSo_23 : decode cL_areQuarrelsSo 23 = .ok (.invokevirtual 53, 3) := by decide +kernel
theorem dL_areQuarrelsSo_26 : decode cL_areQuarrelsSo 26 = .ok (.istore 5, 2) := by decide +kernel
theorem dL_areQuarrelsSo_28 : decode cL_areQuarrelsSo 28 = .ok (.aload_n 0, 1) := by decide +kernel
theorem dL_areQuarrelsSo_29 : decode cL_areQuarrelsSo 29 = .ok (.iload 4, 2) := by decide +kernel
theorem dL_areQuarrelsSo_31 : decode cL_areQuarrelsSo 31 = .ok (.iload_n 1, 1) := by decide +kernel
theorem dL_areQuarrelsSo_32 : decode cL_areQuarrelsSo 32 = .ok (.iconst 1, 1) := by decide +kernel
theorem dL_areQuarrelsSo_33 : decode cL_areQuarrelsSo 33 = .ok (.iconst 0, 1) := by decide +kernel
theorem dL_areQuarrelsSo_34 : decode cL_areQuarrelsSo 34 = .ok (.invokevirtual 53, 3) := by decide +kernel
theorem dL_areQuarrelsSo_37 : decode cL_areQuarrelsSo 37 = .ok (.istore 6, 2) := by decide +kernel
theorem dL_areQuarrelsSo_39 : decode cL_areQuarrelsSo 39 = .ok (.aload_n 0, 1) := by decide +kernel
theorem dL_areQuarrelsSo_40 : decode cL_areQuarrelsSo 40 = .ok (.iload 4, 2) := by decide +kernel
theorem dL_areQuarrelsSo_42 : decode cL_areQuarrelsSo 42 = .ok (.iload_n 1, 1) := by decide +kernel
theorem dL_areQuarrelsSo_43 : decode cL_areQuarrelsSo 43 = .ok (.iconst 2, 1) := by decide +kernel
theorem dL_areQuarrelsSo_44 : decode cL_areQuarrelsSo 44 = .ok (.iconst 0, 1) := by decide +kernel
theorem dL_areQuarrelsSo_45 : decode cL_areQuarrelsSo 45 = .ok (.invokevirtual 53, 3) := by decide +kernel
theorem dL_areQuarrelsSo_48 : decode cL_areQuarrelsSo 48 = .ok (.istore 7, 2) := by decide +kernel
theorem dL_areQuarrelsSo_50 : decode cL_areQuarrelsSo 50 = .ok (.iload_n 2, 1) := by decide +kernel
theorem dL_areQuarrelsSo_51 : decode cL_areQuarrelsSo 51 = .ok (.iload 5, 2) := by decide +kernel
theorem dL_areQuarrelsSo_53 : decode cL_areQuarrelsSo 53 = .ok (.iload 6, 2) := by decide +kernel
theorem dL_areQuarrelsSo_55 : decode cL_areQuarrelsSo 55 = .ok (.if_icmp .ne 14, 3) := by decide +kernel
theorem dL_areQuarrelsSo_58 : decode cL_areQuarrelsSo 58 = .ok (.iload 6, 2) := by decide +kernel
theorem dL_areQuarrelsSo_60 : decode cL_areQuarrelsSo 60 = .ok (.iload 7, 2) := by decide +kernel
theorem dL_areQuarrelsSo_62 : decode cL_areQuarrelsSo 62 = .ok (.if_icmp .ne 7, 3) := by decide +kernel
theorem dL_areQuarrelsSo_65 : decode cL_areQuarrelsSo 65 = .ok (.iconst 0, 1) := by decide +kernel
theorem dL_areQuarrelsSo_66 : decode cL_areQuarrelsSo 66 = .ok (.goto 4, 3) := by decide +kernel
theorem dL_areQuarrelsSo_69 : decode cL_areQuarrelsSo 69 = .ok (.iconst 1, 1) := by decide +kernel
theorem dL_areQuarrelsSo_70 : decode cL_areQuarrelsSo 70 = .ok (.iadd, 1) := by decide +kernel
theorem dL_areQuarrelsSo_71 : decode cL_areQuarrelsSo 71 = .ok (.istore_n 2, 1) := by decide +kernel
theorem dL_areQuarrelsSo_72 : decode cL_areQuarrelsSo 72 = .ok (.iload_n 3, 1) := by decide +kernel
theorem dL_areQuarrelsSo_73 : decode cL_areQuarrelsSo 73 = .ok (.ifCond .eq 31, 3) := by decide +kernel
theorem dL_areQuarrelsSo_76 : decode cL_areQuarrelsSo 76 = .ok (.aload_n 0, 1) := by decide +kernel
theorem dL_areQuarrelsSo_77 : decode cL_areQuarrelsSo 77 = .ok (.iload 4, 2) := by decide +kernel
theorem dL_areQuarrelsSo_79 : decode cL_areQuarrelsSo 79 = .ok (.iload_n 1, 1) := by decide +kernel
theorem dL_areQuarrelsSo_80 : decode cL_areQuarrelsSo 80 = .ok (.invokevirtual 70, 3) := by decide +kernel
theorem dL_areQuarrelsSo_83 : decode cL_areQuarrelsSo 83 = .ok (.iload 6, 2) := by decide +kernel
theorem dL_areQuarrelsSo_85 : decode cL_areQuarrelsSo 85 = .ok (.iload 7, 2) := by decide +kernel
theorem dL_areQuarrelsSo_87 : decode cL_areQuarrelsSo 87 = .ok (.if_icmp .ne 8, 3) := by decide +kernel
theorem dL_areQuarrelsSo_90 : decode cL_areQuarrelsSo 90 = .ok (.iload 6, 2) := by decide +kernel
theorem dL_areQuarrelsSo_92 : decode cL_areQuarrelsSo 92 = .ok (.goto 5, 3) := by decide +kernel
theorem dL_areQuarrelsSo_95 : decode cL_areQuarrelsSo 95 = .ok (.iload 5, 2) := by decide +kernel
theorem dL_areQuarrelsSo_97 : decode cL_areQuarrelsSo 97 = .ok (.if_icmp .ne 7, 3) := by decide +kernel
theorem dL_areQuarrelsSo_100 : decode cL_areQuarrelsSo 100 = .ok (.iconst 1, 1) := by decide +kernel
theorem dL_areQuarrelsSo_101 : decode cL_areQuarrelsSo 101 = .ok (.goto 4, 3) := by decide +kernel
theorem dL_areQuarrelsSo_104 : decode cL_areQuarrelsSo 104 = .ok (.iconst 0, 1) := by decide +kernel
theorem dL_areQuarrelsSo_105 : decode cL_areQuarrelsSo 105 = .ok (.istore_n 3, 1) := by decide +kernel
theorem dL_areQuarrelsSo_106 : decode cL_areQuarrelsSo 106 = .ok (.iinc 4 1, 3) := by decide +kernel
theorem dL_areQuarrelsSo_109 : decode cL_areQuarrelsSo 109 = .ok (.goto (-102), 3) := by decide +kernel
theorem dL_areQuarrelsSo_112 : decode cL_areQuarrelsSo 112 = .ok (.iload_n 3, 1) := by decide +kernel
theorem dL_areQuarrelsSo_113 : decode cL_areQuarrelsSo 113 = .ok (.ifCond .eq 46, 3) := by decide +kernel
theorem dL_areQuarrelsSo_116 : decode cL_areQuarrelsSo 116 = .ok (.iload_n 2, 1) := by decide +kernel
theorem dL_areQuarrelsSo_117 : decode cL_areQuarrelsSo 117 = .ok (.aload_n 0, 1) := by decide +kernel
theorem dL_areQuarrelsSo_118 : decode cL_areQuarrelsSo 118 = .ok (.iload_n 1, 1) := by decide +kernel
theorem dL_areQuarrelsSo_119 : decode cL_areQuarrelsSo 119 = .ok (.invokevirtual 73, 3) := by decide +kernel
theorem dL_areQuarrelsSo_122 : decode cL_areQuarrelsSo 122 = .ok (.if_icmp .ne 37, 3) := by decide +kernel
theorem dL_areQuarrelsSo_125 : decode cL_areQuarrelsSo 125 = .ok (.iload_n 2, 1) := by decide +kernel
theorem dL_areQuarrelsSo_126 : decode cL_areQuarrelsSo 126 = .ok (.ifCond .eq 29, 3) := by decide +kernel
theorem dL_areQuarrelsSo_129 : decode cL_areQuarrelsSo 129 = .ok (.aload_n 0, 1) := by decide +kernel
theorem dL_areQuarrelsSo_130 : decode cL_areQuarrelsSo 130 = .ok (.iconst 2, 1) := by decide +kernel
theorem dL_areQuarrelsSo_131 : decode cL_areQuarrelsSo 131 = .ok (.invokevirtual 24, 3) := by decide +kernel
theorem dL_areQuarrelsSo_134 : decode cL_areQuarrelsSo 134 = .ok (.aload_n 0, 1) := by decide +kernel
theorem dL_areQuarrelsSo_135 : decode cL_areQuarrelsSo 135 = .ok (.iconst 3, 1) := by decide +kernel
theorem dL_areQuarrelsSo_136 : decode cL_areQuarrelsSo 136 = .ok (.invokevirtual 24, 3) := by decide +kernel
theorem dL_areQuarrelsSo_139 : decode cL_areQuarrelsSo 139 = .ok (.if_icmp .ne 16, 3) := by decide +kernel
theorem dL_areQuarrelsSo_142 : decode cL_areQuarrelsSo 142 = .ok (.aload_n 0, 1) := by decide +kernel
theorem dL_areQuarrelsSo_143 : decode cL_areQuarrelsSo 143 = .ok (.iconst 3, 1) := by decide +kernel
theorem dL_areQuarrelsSo_144 : decode cL_areQuarrelsSo 144 = .ok (.invokevirtual 24, 3) := by decide +kernel
theorem dL_areQuarrelsSo_147 : decode cL_areQuarrelsSo 147 = .ok (.aload_n 0, 1) := by decide +kernel
theorem dL_areQuarrelsSo_148 : decode cL_areQuarrelsSo 148 = .ok (.iconst 4, 1) := by decide +kernel
theorem dL_areQuarrelsSo_149 : decode cL_areQuarrelsSo 149 = .ok (.invokevirtual 24, 3) := by decide +kernel
theorem dL_areQuarrelsSo_152 : decode cL_areQuarrelsSo 152 = .ok (.if_icmp .eq 7, 3) := by decide +kernel
theorem dL_areQuarrelsSo_155 : decode cL_areQuarrelsSo 155 = .ok (.iconst 1, 1) := by decide +kernel
theorem dL_areQuarrelsSo_156 : decode cL_areQuarrelsSo 156 = .ok (.goto 4, 3) := by decide +kernel
theorem dL_areQuarrelsSo_159 : decode cL_areQuarrelsSo 159 = .ok (.iconst 0, 1) := by decide +kernel
theorem dL_areQuarrelsSo_160 : decode cL_areQuarrelsSo 160 = .ok (.ireturn, 1) := by decide +kernel
theorem dL_areSticksSo_0 : decode cL_areSticksSo 0 = .ok (.iconst 0, 1) := by decide +kernel
theorem dL_areSticksSo_1 : decode cL_areSticksSo 1 = .ok (.istore_n 1, 1) := by decide +kernel
theorem dL_areSticksSo_2 : decode cL_areSticksSo 2 = .ok (.iconst 1, 1) := by decide +kernel
theorem dL_areSticksSo_3 : decode cL_areSticksSo 3 = .ok (.istore_n 2, 1) := by decide +kernel
theorem dL_areSticksSo_4 : decode cL_areSticksSo 4 = .ok (.iconst 0, 1) := by decide +kernel
theorem dL_areSticksSo_5 : decode cL_areSticksSo 5 = .ok (.istore_n 3, 1) := by decide +kernel
theorem dL_areSticksSo_6 : decode cL_areSticksSo 6 = .ok (.iload_n 3, 1) := by decide +kernel
theorem dL_areSticksSo_7 : decode cL_areSticksSo 7 = .ok (.aload_n 0, 1) := by decide +kernel
theorem dL_areSticksSo_8 : decode cL_areSticksSo 8 = .ok (.iconst 1, 1) := by decide +kernel
theorem dL_areSticksSo_9 : decode cL_areSticksSo 9 = .ok (.invokevirtual 24, 3) := by decide +kernel
theorem dL_areSticksSo_12 : decode cL_areSticksSo 12 = .ok (.if_icmp .ge 161, 3) := by decide +kernel
theorem dL_areSticksSo_15 : decode cL_areSticksSo 15 = .ok (.iconst 0, 1) := by decide +kernel
theorem dL_areSticksSo_16 : decode cL_areSticksSo 16 = .ok (.istore 4, 2) := by decide +kernel
theorem dL_areSticksSo_18 : decode cL_areSticksSo 18 = .ok (.aload_n 0, 1) := by decide +kernel
theorem dL_areSticksSo_19 : decode cL_areSticksSo 19 = .ok (.iload_n 3, 1) := by decide +kernel
theorem dL_areSticksSo_20 : decode cL_areSticksSo 20 = .ok (.iconst 0, 1) := by decide +kernel
theorem dL_areSticksSo_21 : decode cL_areSticksSo 21 = .ok (.invokevirtual 76, 3) := by decide +kernel
theorem dL_areSticksSo_24 : decode cL_areSticksSo 24 = .ok (.istore 5, 2) := by decide +kernel
theorem dL_areSticksSo_26 : decode cL_areSticksSo 26 = .ok (.iconst 0, 1) := by decide +kernel
theorem dL_areSticksSo_27 : decode cL_areSticksSo 27 = .ok (.istore 6, 2) := by decide +kernel
theorem dL_areSticksSo_29 : decode cL_areSticksSo 29 = .ok (.iconst 0, 1) := by decide +kernel
theorem dL_areSticksSo_30 : decode cL_areSticksSo 30 = .ok (.istore 7, 2) := by decide +kernel
theorem dL_areSticksSo_32 : decode cL_areSticksSo 32 = .ok (.iload 7, 2) := by decide +kernel
theorem dL_areSticksSo_34 : decode cL_areSticksSo 34 = .ok (.bipush 10, 2) := by decide +kernel
theorem dL_areSticksSo_36 : decode cL_areSticksSo 36 = .ok (.if_icmp .ge 90, 3) := by decide +kernel
theorem dL_areSticksSo_39 : decode cL_areSticksSo 39 = .ok (.aload_n 0, 1) := by decide +kernel
theorem dL_areSticksSo_40 : decode cL_areSticksSo 40 = .ok (.iload_n 3, 1) := by decide +kernel
theorem dL_areSticksSo_41 : decode cL_areSticksSo 41 = .ok (.iconst 4, 1) := by decide +kernel
theorem dL_areSticksSo_42 : decode cL_areSticksSo 42 = .ok (.iload 7, 2) := by decide +kernel
theorem dL_areSticksSo_44 : decode cL_areSticksSo 44 = .ok (.iadd, 1) := by decide +kernel
theorem dL_areSticksSo_45 : decode cL_areSticksSo 45 = .ok (.invokevirtual 76, 3) := by decide +kernel
theorem dL_areSticksSo_48 : decode cL_areSticksSo 48 = .ok (.istore 8, 2) := by decide +kernel
theorem dL_areSticksSo_50 : decode cL_areSticksSo 50 = .ok (.iload 7, 2) := by decide +kernel
theorem dL_areSticksSo_52 : decode cL_areSticksSo 52 = .ok (.aload_n 0, 1) := by decide +kernel
theorem dL_areSticksSo_53 : decode cL_areSticksSo 53 = .ok (.iconst 0, 1) := by decide +kernel
theorem dL_areSticksSo_54 : decode cL_areSticksSo 54 = .ok (.invokevirtual 24, 3) := by decide +kernel
theorem dL_areSticksSo_57 : decode cL_areSticksSo 57 = .ok (.if_icmp .ge 21, 3) := by decide +kernel
theorem dL_areSticksSo_60 : decode cL_areSticksSo 60 = .ok (.aload_n 0, 1) := by decide +kernel
theorem dL_areSticksSo_61 : decode cL_areSticksSo 61 = .ok (.iload 7, 2) := by decide +kernel
theorem dL_areSticksSo_63 : decode cL_areSticksSo 63 = .ok (.iload 5, 2) := by decide +kernel
theorem dL_areSticksSo_65 : decode cL_areSticksSo 65 = .ok (.aload_n 0, 1) := by decide +kernel
theorem dL_areSticksSo_66 : decode cL_areSticksSo 66 = .ok (.iload_n 3, 1) := by decide +kernel
theorem dL_areSticksSo_67 : decode cL_areSticksSo 67 = .ok (.iconst 1, 1) := by decide +kernel
theorem dL_areSticksSo_68 : decode cL_areSticksSo 68 = .ok (.invokevirtual 76, 3) := by decide +kernel
theorem dL_areSticksSo_71 : decode cL_areSticksSo 71 = .ok (.iconst 0, 1) := by decide +kernel
theorem dL_areSticksSo_72 : decode cL_areSticksSo 72 = .ok (.invokevirtual 53, 3) := by decide +kernel
theorem dL_areSticksSo_75 : decode cL_areSticksSo 75 = .ok (.goto 4, 3) := by decide +kernel
theorem dL_areSticksSo_78 : decode cL_areSticksSo 78 = .ok (.iconst (-1), 1) := by decide +kernel
theorem dL_areSticksSo_79 : decode cL_areSticksSo 79 = .ok (.istore 9, 2) := by decide +kernel
theorem dL_areSticksSo_81 : decode cL_areSticksSo 81 = .ok (.iload 4, 2) := by decide +kernel
theorem dL_areSticksSo_83 : decode cL_areSticksSo 83 = .ok (.iload 8, 2) := by decide +kernel
theorem dL_areSticksSo_85 : decode cL_areSticksSo 85 = .ok (.iconst (-1), 1) := by decide +kernel
theorem dL_areSticksSo_86 : decode cL_areSticksSo 86 = .ok (.if_icmp .ne 7, 3) := by decide +kernel
theorem dL_areSticksSo_89 : decode cL_areSticksSo 89 = .ok (.iconst 0, 1) := by decide +kernel
theorem dL_areSticksSo_90 : decode cL_areSticksSo 90 = .ok (.goto 4, 3) := by decide +kernel
theorem dL_areSticksSo_93 : decode cL_areSticksSo 93 = .ok (.iconst 1, 1) := by decide +kernel
theorem dL_areSticksSo_94 : decode cL_areSticksSo 94 = .ok (.iadd, 1) := by decide +kernel
theorem dL_areSticksSo_95 : decode cL_areSticksSo 95 = .ok (.istore 4, 2) := by decide +kernel
theorem dL_areSticksSo_97 : decode cL_areSticksSo 97 = .ok (.iload 6, 2) := by decide +kernel
theorem dL_areSticksSo_99 : decode cL_areSticksSo 99 = .ok (.iload 8, 2) := by decide +kernel
theorem dL_areSticksSo_101 : decode cL_areSticksSo 101 = .ok (.iconst (-1), 1) := by decide +kernel
theorem dL_areSticksSo_102 : decode cL_areSticksSo 102 = .ok (.if_icmp .eq 14, 3) := by decide +kernel
theorem dL_areSticksSo_105 : decode cL_areSticksSo 105 = .ok (.iload 8, 2) := by decide +kernel
theorem dL_areSticksSo_107 : decode cL_areSticksSo 107 = .ok (.iload 9, 2) := by decide +kernel
theorem dL_areSticksSo_109 : decode cL_areSticksSo 109 = .ok (.if_icmp .eq 7, 3) := by decide +kernel
theorem dL_areSticksSo_112 : decode cL_areSticksSo 112 = .ok (.iconst 1, 1) := by decide +kernel
theorem dL_areSticksSo_113 : decode cL_areSticksSo 113 = .ok (.goto 4, 3) := by decide +kernel
theorem dL_areSticksSo_116 : decode cL_areSticksSo 116 = .ok (.iconst 0, 1) := by decide +kernel
theorem dL_areSticksSo_117 : decode cL_areSticksSo 117 = .ok (.iadd, 1) := by decide +kernel
theorem dL_areSticksSo_118 : decode cL_areSticksSo 118 = .ok (.istore 6, 2) := by decide +kernel
theorem dL_areSticksSo_120 : decode cL_areSticksSo 120 = .ok (.iinc 7 1, 3) := by decide +kernel
theorem dL_areSticksSo_123 : decode cL_areSticksSo 123 = .ok (.goto (-91), 3) := by decide +kernel
theorem dL_areSticksSo_126 : decode cL_areSticksSo 126 = .ok (.iload_n 1, 1) := by decide +kernel
theorem dL_areSticksSo_127 : decode cL_areSticksSo 127 = .ok (.aload_n 0, 1) := by decide +kernel
theorem dL_areSticksSo_128 : decode cL_areSticksSo 128 = .ok (.iload_n 3, 1) := by decide +kernel
theorem dL_areSticksSo_129 : decode cL_areSticksSo 129 = .ok (.iconst 3, 1) := by decide +kernel
theorem dL_areSticksSo_130 : decode cL_areSticksSo 130 = .ok (.invokevirtual 76, 3) := by decide +kernel
theorem dL_areSticksSo_133 : decode cL_areSticksSo 133 = .ok (.iadd, 1) := by decide +kernel
theorem dL_areSticksSo_134 : decode cL_areSticksSo 134 = .ok (.istore_n 1, 1) := by decide +kernel
theorem dL_areSticksSo_135 : decode cL_areSticksSo 135 = .ok (.iload_n 2, 1) := by decide +kernel
theorem dL_areSticksSo_136 : decode cL_areSticksSo 136 = .ok (.ifCond .eq 29, 3) := by decide +kernel
theorem dL_areSticksSo_139 : decode cL_areSticksSo 139 = .ok (.iload 4, 2) := by decide +kernel
theorem dL_areSticksSo_141 : decode cL_areSticksSo 141 = .ok (.aload_n 0, 1) := by decide +kernel
theorem dL_areSticksSo_142 : decode cL_areSticksSo 142 = .ok (.iload_n 3, 1) := by decide +kernel
theorem dL_areSticksSo_143 : decode cL_areSticksSo 143 = .ok (.iconst 2, 1) := by decide +kernel
theorem dL_areSticksSo_144 : decode cL_areSticksSo 144 = .ok (.invokevirtual 76, 3) := by decide +kernel
theorem dL_areSticksSo_147 : decode cL_areSticksSo 147 = .ok (.if_icmp .ne 18, 3) := by decide +kernel
theorem dL_areSticksSo_150 : decode cL_areSticksSo 150 = .ok (.aload_n 0, 1) := by decide +kernel
theorem dL_areSticksSo_151 : decode cL_areSticksSo 151 = .ok (.iload_n 3, 1) := by decide +kernel
theorem dL_areSticksSo_152 : decode cL_areSticksSo 152 = .ok (.iconst 3, 1) := by decide +kernel
theorem dL_areSticksSo_153 : decode cL_areSticksSo 153 = .ok (.invokevirtual 76, 3) := by decide +kernel
theorem dL_areSticksSo_156 : decode cL_areSticksSo 156 = .ok (.iload 6, 2) := by decide +kernel
theorem dL_areSticksSo_158 : decode cL_areSticksSo 158 = .ok (.if_icmp .lt 7, 3) := by decide +kernel
theorem dL_areSticksSo_161 : decode cL_areSticksSo 161 = .ok (.iconst 1, 1) := by decide +kernel
theorem dL_areSticksSo_162 : decode cL_areSticksSo 162 = .ok (.goto 4, 3) := by decide +kernel
theorem dL_areSticksSo_165 : decode cL_areSticksSo 165 = .ok (.iconst 0, 1) := by decide +kernel
theorem dL_areSticksSo_166 : decode cL_areSticksSo 166 = .ok (.istore_n 2, 1) := by decide +kernel
theorem dL_areSticksSo_167 : decode cL_areSticksSo 167 = .ok (.iinc 3 1, 3) := by decide +kernel
theorem dL_areSticksSo_170 : decode cL_areSticksSo 170 = .ok (.goto (-164), 3) := by decide +kernel
theorem dL_areSticksSo_173 : decode cL_areSticksSo 173 = .ok (.iload_n 2, 1) := by decide +kernel
theorem dL_areSticksSo_174 : decode cL_areSticksSo 174 = .ok (.ifCond .eq 44, 3) := by decide +kernel
theorem dL_areSticksSo_177 : decode cL_areSticksSo 177 = .ok (.iload_n 1, 1) := by decide +kernel
theorem dL_areSticksSo_178 : decode cL_areSticksSo 178 = .ok (.aload_n 0, 1) := by decide +kernel
theorem dL_areSticksSo_179 : decode cL_areSticksSo 179 = .ok (.bipush 6, 2) := by decide +kernel
theorem dL_areSticksSo_181 : decode cL_areSticksSo 181 = .ok (.invokevirtual 24, 3) := by decide +kernel
theorem dL_areSticksSo_184 : decode cL_areSticksSo 184 = .ok (.if_icmp .ne 34, 3) := by decide +kernel
theorem dL_areSticksSo_187 : decode cL_areSticksSo 187 = .ok (.aload_n 0, 1) := by decide +kernel
theorem dL_areSticksSo_188 : decode cL_areSticksSo 188 = .ok (.iconst 1, 1) := by decide +kernel
theorem dL_areSticksSo_189 : decode cL_areSticksSo 189 = .ok (.invokevirtual 24, 3) := by decide +kernel
theorem dL_areSticksSo_192 : decode cL_areSticksSo 192 = .ok (.iconst 5, 1) := by decide +kernel
theorem dL_areSticksSo_193 : decode cL_areSticksSo 193 = .ok (.if_icmp .gt 25, 3) := by decide +kernel
theorem dL_areSticksSo_196 : decode cL_areSticksSo 196 = .ok (.aload_n 0, 1) := by decide +kernel
theorem dL_areSticksSo_197 : decode cL_areSticksSo 197 = .ok (.invokevirtual 79, 3) := by decide +kernel
theorem dL_areSticksSo_200 : decode cL_areSticksSo 200 = .ok (.dconst 0, 1) := by decide +kernel
theorem dL_areSticksSo_201 : decode cL_areSticksSo 201 = .ok (.dcmp .l, 1) := by decide +kernel
theorem dL_areSticksSo_202 : decode cL_areSticksSo 202 = .ok (.ifCond .lt 16, 3) := by decide +kernel
theorem dL_areSticksSo_205 : decode cL_areSticksSo 205 = .ok (.aload_n 0, 1) := by decide +kernel
theorem dL_areSticksSo_206 : decode cL_areSticksSo 206 = .ok (.invokevirtual 79, 3) := by decide +kernel
theorem dL_areSticksSo_209 : decode cL_areSticksSo 209 = .ok (.dconst 1, 1) := by decide +kernel
theorem dL_areSticksSo_210 : decode cL_areSticksSo 210 = .ok (.dcmp .g, 1) := by decide +kernel
theorem dL_areSticksSo_211 : decode cL_areSticksSo 211 = .ok (.ifCond .gt 7, 3) := by decide +kernel
theorem dL_areSticksSo_214 : decode cL_areSticksSo 214 = .ok (.iconst 1, 1) := by decide +kernel
theorem dL_areSticksSo_215 : decode cL_areSticksSo 215 = .ok (.goto 4, 3) := by decide +kernel
theorem dL_areSticksSo_218 : decode cL_areSticksSo 218 = .ok (.iconst 0, 1) := by decide +kernel
theorem dL_areSticksSo_219 : decode cL_areSticksSo 219 = .ok (.ireturn, 1) := by decide +kernel
theorem dL_isPeaceSo_0 : decode cL_isPeaceSo 0 = .ok (.aload_n 0, 1) := by decide +kernel
theorem dL_isPeaceSo_1 : decode cL_isPeaceSo 1 = .ok (.iload_n 1, 1) := by decide +kernel
theorem dL_isPeaceSo_2 : decode cL_isPeaceSo 2 = .ok (.iload_n 2, 1) := by decide +kernel
theorem dL_isPeaceSo_3 : decode cL_isPeaceSo 3 = .ok (.invokevirtual 83, 3) := by decide +kernel
theorem dL_isPeaceSo_6 : decode cL_isPeaceSo 6 = .ok (.iconst 5, 1) := by decide +kernel
theorem dL_isPeaceSo_7 : decode cL_isPeaceSo 7 = .ok (.isub, 1) := by decide +kernel
theorem dL_isPeaceSo_8 : decode cL_isPeaceSo 8 = .ok (.istore_n 3, 1) := by decide +kernel
theorem dL_isPeaceSo_9 : decode cL_isPeaceSo 9 = .ok (.aload_n 0, 1) := by decide +kernel
theorem dL_isPeaceSo_10 : decode cL_isPeaceSo 10 = .ok (.iload_n 1, 1) := by decide +kernel
theorem dL_isPeaceSo_11 : decode cL_isPeaceSo 11 = .ok (.iload_n 3, 1) := by decide +kernel
theorem dL_isPeaceSo_12 : decode cL_isPeaceSo 12 = .ok (.invokevirtual 41, 3) := by decide +kernel
theorem dL_isPeaceSo_15 : decode cL_isPeaceSo 15 = .ok (.istore 4, 2) := by decide +kernel
theorem dL_isPeaceSo_17 : decode cL_isPeaceSo 17 = .ok (.aload_n 0, 1) := by decide +kernel
theorem dL_isPeaceSo_18 : decode cL_isPeaceSo 18 = .ok (.iload_n 2, 1) := by decide +kernel
theorem dL_isPeaceSo_19 : decode cL_isPeaceSo 19 = .ok (.invokevirtual 73, 3) := by decide +kernel
theorem dL_isPeaceSo_22 : decode cL_isPeaceSo 22 = .ok (.istore 5, 2) := by decide +kernel
theorem dL_isPeaceSo_24 : decode cL_isPeaceSo 24 = .ok (.aload_n 0, 1) := by decide +kernel
theorem dL_isPeaceSo_25 : decode cL_isPeaceSo 25 = .ok (.invokevirtual 86, 3) := by decide +kernel
theorem dL_isPeaceSo_28 : decode cL_isPeaceSo 28 = .ok (.istore 6, 2) := by decide +kernel
theorem dL_isPeaceSo_30 : decode cL_isPeaceSo 30 = .ok (.iload_n 3, 1) := by decide +kernel
theorem dL_isPeaceSo_31 : decode cL_isPeaceSo 31 = .ok (.bipush (-5), 2) := by decide +kernel
theorem dL_isPeaceSo_33 : decode cL_isPeaceSo 33 = .ok (.if_icmp .lt 24, 3) := by decide +kernel
theorem dL_isPeaceSo_36 : decode cL_isPeaceSo 36 = .ok (.iload_n 3, 1) := by decide +kernel
theorem dL_isPeaceSo_37 : decode cL_isPeaceSo 37 = .ok (.iconst 5, 1) := by decide +kernel
theorem dL_isPeaceSo_38 : decode cL_isPeaceSo 38 = .ok (.if_icmp .gt 19, 3) := by decide +kernel
theorem dL_isPeaceSo_41 : decode cL_isPeaceSo 41 = .ok (.iload 4, 2) := by decide +kernel
theorem dL_isPeaceSo_43 : decode cL_isPeaceSo 43 = .ok (.aload_n 0, 1) := by decide +kernel
theorem dL_isPeaceSo_44 : decode cL_isPeaceSo 44 = .ok (.iconst 2, 1) := by decide +kernel
theorem dL_isPeaceSo_45 : decode cL_isPeaceSo 45 = .ok (.iload_n 1, 1) := by decide +kernel
theorem dL_isPeaceSo_46 : decode cL_isPeaceSo 46 = .ok (.iadd, 1) := by decide +kernel
theorem dL_isPeaceSo_47 : decode cL_isPeaceSo 47 = .ok (.invokevirtual 24, 3) := by decide +kernel
theorem dL_isPeaceSo_50 : decode cL_isPeaceSo 50 = .ok (.if_icmp .ne 7, 3) := by decide +kernel
theorem dL_isPeaceSo_53 : decode cL_isPeaceSo 53 = .ok (.iconst 1, 1) := by decide +kernel
theorem dL_isPeaceSo_54 : decode cL_isPeaceSo 54 = .ok (.goto 4, 3) := by decide +kernel
theorem dL_isPeaceSo_57 : decode cL_isPeaceSo 57 = .ok (.iconst 0, 1) := by decide +kernel
theorem dL_isPeaceSo_58 : decode cL_isPeaceSo 58 = .ok (.istore 7, 2) := by decide +kernel
theorem dL_isPeaceSo_60 : decode cL_isPeaceSo 60 = .ok (.bipush (-5), 2) := by decide +kernel
theorem dL_isPeaceSo_62 : decode cL_isPeaceSo 62 = .ok (.istore 8, 2) := by decide +kernel
theorem dL_isPeaceSo_64 : decode cL_isPeaceSo 64 = .ok (.iload 8, 2) := by decide +kernel
theorem dL_isPeaceSo_66 : decode cL_isPeaceSo 66 = .ok (.bipush 6, 2) := by decide +kernel
theorem dL_isPeaceSo_68 : decode cL_isPeaceSo 68 = .ok (.if_icmp .ge 85, 3) := by decide +kernel
theorem dL_isPeaceSo_71 : decode cL_isPeaceSo 71 = .ok (.aload_n 0, 1) := by decide +kernel
theorem dL_isPeaceSo_72 : decode cL_isPeaceSo 72 = .ok (.iload_n 1, 1) := by decide +kernel
theorem dL_isPeaceSo_73 : decode cL_isPeaceSo 73 = .ok (.iload 8, 2) := by decide +kernel
theorem dL_isPeaceSo_75 : decode cL_isPeaceSo 75 = .ok (.invokevirtual 41, 3) := by decide +kernel
theorem dL_isPeaceSo_78 : decode cL_isPeaceSo 78 = .ok (.istore 4, 2) := by decide +kernel
theorem dL_isPeaceSo_80 : decode cL_isPeaceSo 80 = .ok (.aload_n 0, 1) := by decide +kernel
theorem dL_isPeaceSo_81 : decode cL_isPeaceSo 81 = .ok (.iload_n 2, 1) := by decide +kernel
theorem dL_isPeaceSo_82 : decode cL_isPeaceSo 82 = .ok (.invokevirtual 73, 3) := by decide +kernel
theorem dL_isPeaceSo_85 : decode cL_isPeaceSo 85 = .ok (.istore 9, 2) := by decide +kernel
theorem dL_isPeaceSo_87 : decode cL_isPeaceSo 87 = .ok (.aload_n 0, 1) := by decide +kernel
theorem dL_isPeaceSo_88 : decode cL_isPeaceSo 88 = .ok (.invokevirtual 86, 3) := by decide +kernel
theorem dL_isPeaceSo_91 : decode cL_isPeaceSo 91 = .ok (.istore 6, 2) := by decide +kernel
theorem dL_isPeaceSo_93 : decode cL_isPeaceSo 93 = .ok (.iload 7, 2) := by decide +kernel
theorem dL_isPeaceSo_95 : decode cL_isPeaceSo 95 = .ok (.ifCond .eq 49, 3) := by decide +kernel
theorem dL_isPeaceSo_98 : decode cL_isPeaceSo 98 = .ok (.iload 9, 2) := by decide +kernel
theorem dL_isPeaceSo_100 : decode cL_isPeaceSo 100 = .ok (.iload 5, 2) := by decide +kernel
theorem dL_isPeaceSo_102 : decode cL_isPeaceSo 102 = .ok (.if_icmp .lt 42, 3) := by decide +kernel
theorem dL_isPeaceSo_105 : decode cL_isPeaceSo 105 = .ok (.iload 9, 2) := by decide +kernel
theorem dL_isPeaceSo_107 : decode cL_isPeaceSo 107 = .ok (.iload 5, 2) := by decide +kernel
theorem dL_isPeaceSo_109 : decode cL_isPeaceSo 109 = .ok (.if_icmp .gt 31, 3) := by decide +kernel
theorem dL_isPeaceSo_112 : decode cL_isPeaceSo 112 = .ok (.iload 8, 2) := by decide +kernel
theorem dL_isPeaceSo_114 : decode cL_isPeaceSo 114 = .ok (.iload 8, 2) := by decide +kernel
theorem dL_isPeaceSo_116 : decode cL_isPeaceSo 116 = .ok (.imul, 1) := by decide +kernel
theorem dL_isPeaceSo_117 : decode cL_isPeaceSo 117 = .ok (.iload_n 3, 1) := by decide +kernel
theorem dL_isPeaceSo_118 : decode cL_isPeaceSo 118 = .ok (.iload_n 3, 1) := by decide +kernel
theorem dL_isPeaceSo_119 : decode cL_isPeaceSo 119 = .ok (.imul, 1) := by decide +kernel
theorem dL_isPeaceSo_120 : decode cL_isPeaceSo 120 = .ok (.if_icmp .gt 20, 3) := by decide +kernel
theorem dL_isPeaceSo_123 : decode cL_isPeaceSo 123 = .ok (.iload 8, 2) := by decide +kernel
theorem dL_isPeaceSo_125 : decode cL_isPeaceSo 125 = .ok (.iload 8, 2) := by decide +kernel
theorem dL_isPeaceSo_127 : decode cL_isPeaceSo 127 = .ok (.imul, 1) := by decide +kernel
theorem dL_isPeaceSo_128 : decode cL_isPeaceSo 128 = .ok (.iload_n 3, 1) := by decide +kernel
theorem dL_isPeaceSo_129 : decode cL_isPeaceSo 129 = .ok (.iload_n 3, 1) := by decide +kernel
theorem dL_isPeaceSo_130 : decode cL_isPeaceSo 130 = .ok (.imul, 1) := by decide +kernel
theorem dL_isPeaceSo_131 : decode cL_isPeaceSo 131 = .ok (.if_icmp .ne 13, 3) := by decide +kernel
theorem dL_isPeaceSo_134 : decode cL_isPeaceSo 134 = .ok (.iload_n 3, 1) := by decide +kernel
theorem dL_isPeaceSo_135 : decode cL_isPeaceSo 135 = .ok (.iload 8, 2) := by decide +kernel
theorem dL_isPeaceSo_137 : decode cL_isPeaceSo 137 = .ok (.if_icmp .gt 7, 3) := by decide +kernel
theorem dL_isPeaceSo_140 : decode cL_isPeaceSo 140 = .ok (.iconst 1, 1) := by decide +kernel
theorem dL_isPeaceSo_141 : decode cL_isPeaceSo 141 = .ok (.goto 4, 3) := by decide +kernel
theorem dL_isPeaceSo_144 : decode cL_isPeaceSo 144 = .ok (.iconst 0, 1) := by decide +kernel
theorem dL_isPeaceSo_145 : decode cL_isPeaceSo 145 = .ok (.istore 7, 2) := by decide +kernel
theorem dL_isPeaceSo_147 : decode cL_isPeaceSo 147 = .ok (.iinc 8 2, 3) := by decide +kernel
theorem dL_isPeaceSo_150 : decode cL_isPeaceSo 150 = .ok (.goto (-86), 3) := by decide +kernel
theorem dL_isPeaceSo_153 : decode cL_isPeaceSo 153 = .ok (.iload 7, 2) := by decide +kernel
theorem dL_isPeaceSo_155 : decode cL_isPeaceSo 155 = .ok (.ifCond .eq 12, 3) := by decide +kernel
theorem dL_isPeaceSo_158 : decode cL_isPeaceSo 158 = .ok (.iload 6, 2) := by decide +kernel
theorem dL_isPeaceSo_160 : decode cL_isPeaceSo 160 = .ok (.ifCond .lt 7, 3) := by decide +kernel
theorem dL_isPeaceSo_163 : decode cL_isPeaceSo 163 = .ok (.iconst 1, 1) := by decide +kernel
theorem dL_isPeaceSo_164 : decode cL_isPeaceSo 164 = .ok (.goto 4, 3) := by decide +kernel
theorem dL_isPeaceSo_167 : decode cL_isPeaceSo 167 = .ok (.iconst 0, 1) := by decide +kernel
theorem dL_isPeaceSo_168 : decode cL_isPeaceSo 168 = .ok (.ireturn, 1) := by decide +kernel
theorem dL_isAlikeSo_0 : decode cL_isAlikeSo 0 = .ok (.aload_n 0, 1) := by decide +kernel
theorem dL_isAlikeSo_1 : decode cL_isAlikeSo 1 = .ok (.iload_n 1, 1) := by decide +kernel
theorem dL_isAlikeSo_2 : decode cL_isAlikeSo 2 = .ok (.invokevirtual 89, 3) := by decide +kernel
theorem dL_isAlikeSo_5 : decode cL_isAlikeSo 5 = .ok (.istore_n 2, 1) := by decide +kernel
theorem dL_isAlikeSo_6 : decode cL_isAlikeSo 6 = .ok (.iload_n 2, 1) := by decide +kernel
theorem dL_isAlikeSo_7 : decode cL_isAlikeSo 7 = .ok (.iconst (-1), 1) := by decide +kernel
theorem dL_isAlikeSo_8 : decode cL_isAlikeSo 8 = .ok (.if_icmp .ne 5, 3) := by decide +kernel
theorem dL_isAlikeSo_11 : decode cL_isAlikeSo 11 = .ok (.iconst 1, 1) := by decide +kernel
theorem dL_isAlikeSo_12 : decode cL_isAlikeSo 12 = .ok (.ireturn, 1) := by decide +kernel
theorem dL_isAlikeSo_13 : decode cL_isAlikeSo 13 = .ok (.iload_n 2, 1) := by decide +kernel
theorem dL_isAlikeSo_14 : decode cL_isAlikeSo 14 = .ok (.iload_n 1, 1) := by decide +kernel
theorem dL_isAlikeSo_15 : decode cL_isAlikeSo 15 = .ok (.if_icmp .le 50, 3) := by decide +kernel
theorem dL_isAlikeSo_18 : decode cL_isAlikeSo 18 = .ok (.iload_n 2, 1) := by decide +kernel
theorem dL_isAlikeSo_19 : decode cL_isAlikeSo 19 = .ok (.iload_n 1, 1) := by decide +kernel
theorem dL_isAlikeSo_20 : decode cL_isAlikeSo 20 = .ok (.bipush 100, 2) := by decide +kernel
theorem dL_isAlikeSo_22 : decode cL_isAlikeSo 22 = .ok (.iadd, 1) := by decide +kernel
theorem dL_isAlikeSo_23 : decode cL_isAlikeSo 23 = .ok (.if_icmp .gt 42, 3) := by decide +kernel
theorem dL_isAlikeSo_26 : decode cL_isAlikeSo 26 = .ok (.iload_n 2, 1) := by decide +kernel
theorem dL_isAlikeSo_27 : decode cL_isAlikeSo 27 = .ok (.sipush 1000, 3) := by decide +kernel
theorem dL_isAlikeSo_30 : decode cL_isAlikeSo 30 = .ok (.if_icmp .ge 35, 3) := by decide +kernel
theorem dL_isAlikeSo_33 : decode cL_isAlikeSo 33 = .ok (.iload_n 2, 1) := by decide +kernel
theorem dL_isAlikeSo_34 : decode cL_isAlikeSo 34 = .ok (.invokestatic 60, 3) := by decide +kernel
theorem dL_isAlikeSo_37 : decode cL_isAlikeSo 37 = .ok (.iload_n 1, 1) := by decide +kernel
theorem dL_isAlikeSo_38 : decode cL_isAlikeSo 38 = .ok (.invokestatic 60, 3) := by decide +kernel
theorem dL_isAlikeSo_41 : decode cL_isAlikeSo 41 = .ok (.if_icmp .ne 24, 3) := by decide +kernel
theorem dL_isAlikeSo_44 : decode cL_isAlikeSo 44 = .ok (.aload_n 0, 1) := by decide +kernel
theorem dL_isAlikeSo_45 : decode cL_isAlikeSo 45 = .ok (.iload_n 2, 1) := by decide +kernel
theorem dL_isAlikeSo_46 : decode cL_isAlikeSo 46 = .ok (.iconst 0, 1) := by decide +kernel
theorem dL_isAlikeSo_47 : decode cL_isAlikeSo 47 = .ok (.iconst 0, 1) := by decide +kernel
theorem dL_isAlikeSo_48 : decode cL_isAlikeSo 48 = .ok (.invokevirtual 63, 3) := by decide +kernel
theorem dL_isAlikeSo_51 : decode cL_isAlikeSo 51 = .ok (.aload_n 0, 1) := by decide +kernel
theorem dL_isAlikeSo_52 : decode cL_isAlikeSo 52 = .ok (.iload_n 1, 1) := by decide +kernel
theorem dL_isAlikeSo_53 : decode cL_isAlikeSo 53 = .ok (.iconst 0, 1) := by decide +kernel
theorem dL_isAlikeSo_54 : decode cL_isAlikeSo 54 = .ok (.iconst 0, 1) := by decide +kernel
theorem dL_isAlikeSo_55 : decode cL_isAlikeSo 55 = .ok (.invokevirtual 63, 3) := by decide +kernel
theorem dL_isAlikeSo_58 : decode cL_isAlikeSo 58 = .ok (.if_icmp .ne 7, 3) := by decide +kernel
theorem dL_isAlikeSo_61 : decode cL_isAlikeSo 61 = .ok (.iconst 1, 1) := by decide +kernel
theorem dL_isAlikeSo_62 : decode cL_isAlikeSo 62 = .ok (.goto 4, 3) := by decide +kernel
theorem dL_isAlikeSo_65 : decode cL_isAlikeSo 65 = .ok (.iconst 0, 1) := by decide +kernel
theorem dL_isAlikeSo_66 : decode cL_isAlikeSo 66 = .ok (.istore_n 3, 1) := by decide +kernel
theorem dL_isAlikeSo_67 : decode cL_isAlikeSo 67 = .ok (.iconst 0, 1) := by decide +kernel
theorem dL_isAlikeSo_68 : decode cL_isAlikeSo 68 = .ok (.istore 4, 2) := by decide +kernel
theorem dL_isAlikeSo_70 : decode cL_isAlikeSo 70 = .ok (.iload 4, 2) := by decide +kernel
theorem dL_isAlikeSo_72 : decode cL_isAlikeSo 72 = .ok (.aload_n 0, 1) := by decide +kernel
theorem dL_isAlikeSo_73 : decode cL_isAlikeSo 73 = .ok (.iconst 0, 1) := by decide +kernel
theorem dL_isAlikeSo_74 : decode cL_isAlikeSo 74 = .ok (.invokevirtual 24, 3) := by decide +kernel
theorem dL_isAlikeSo_77 : decode cL_isAlikeSo 77 = .ok (.if_icmp .ge 117, 3) := by decide +kernel
theorem dL_isAlikeSo_80 : decode cL_isAlikeSo 80 = .ok (.aload_n 0, 1) := by decide +kernel
theorem dL_isAlikeSo_81 : decode cL_isAlikeSo 81 = .ok (.iload 4, 2) := by decide +kernel
theorem dL_isAlikeSo_83 : decode cL_isAlikeSo 83 = .ok (.iload_n 1, 1) := by decide +kernel
theorem dL_isAlikeSo_84 : decode cL_isAlikeSo 84 = .ok (.iconst 1, 1) := by decide +kernel
theorem dL_isAlikeSo_85 : decode cL_isAlikeSo 85 = .ok (.iconst 0, 1) := by decide +kernel
theorem dL_isAlikeSo_86 : decode cL_isAlikeSo 86 = .ok (.invokevirtual 92, 3) := by decide +kernel
theorem dL_isAlikeSo_89 : decode cL_isAlikeSo 89 = .ok (.istore 5, 2) := by decide +kernel
theorem dL_isAlikeSo_91 : decode cL_isAlikeSo 91 = .ok (.iload_n 3, 1) := by decide +kernel
theorem dL_isAlikeSo_92 : decode cL_isAlikeSo 92 = .ok (.ifCond .eq 94, 3) := by decide +kernel
theorem dL_isAlikeSo_95 : decode cL_isAlikeSo 95 = .ok (.aload_n 0, 1) := by decide +kernel
theorem dL_isAlikeSo_96 : decode cL_isAlikeSo 96 = .ok (.iload 4, 2) := by decide +kernel
theorem dL_isAlikeSo_98 : decode cL_isAlikeSo 98 = .ok (.iload_n 2, 1) := by decide +kernel
theorem dL_isAlikeSo_99 : decode cL_isAlikeSo 99 = .ok (.invokevirtual 70, 3) := by decide +kernel
theorem dL_isAlikeSo_102 : decode cL_isAlikeSo 102 = .ok (.aload_n 0, 1) := by decide +kernel
theorem dL_isAlikeSo_103 : decode cL_isAlikeSo 103 = .ok (.iload 4, 2) := by decide +kernel
theorem dL_isAlikeSo_105 : decode cL_isAlikeSo 105 = .ok (.iload_n 1, 1) := by decide +kernel
theorem dL_isAlikeSo_106 : decode cL_isAlikeSo 106 = .ok (.invokevirtual 70, 3) := by decide +kernel
theorem dL_isAlikeSo_109 : decode cL_isAlikeSo 109 = .ok (.if_icmp .ne 77, 3) := by decide +kernel
theorem dL_isAlikeSo_112 : decode cL_isAlikeSo 112 = .ok (.iload 5, 2) := by decide +kernel
theorem dL_isAlikeSo_114 : decode cL_isAlikeSo 114 = .ok (.aload_n 0, 1) := by decide +kernel
theorem dL_isAlikeSo_115 : decode cL_isAlikeSo 115 = .ok (.iload 4, 2) := by decide +kernel
theorem dL_isAlikeSo_117 : decode cL_isAlikeSo 117 = .ok (.iload_n 1, 1) := by decide +kernel
theorem dL_isAlikeSo_118 : decode cL_isAlikeSo 118 = .ok (.invokevirtual 70, 3) := by decide +kernel
theorem dL_isAlikeSo_121 : decode cL_isAlikeSo 121 = .ok (.if_icmp .ne 65, 3) := by decide +kernel
theorem dL_isAlikeSo_124 : decode cL_isAlikeSo 124 = .ok (.aload_n 0, 1) := by decide +kernel
theorem dL_isAlikeSo_125 : decode cL_isAlikeSo 125 = .ok (.iload 4, 2) := by decide +kernel
theorem dL_isAlikeSo_127 : decode cL_isAlikeSo 127 = .ok (.iload_n 1, 1) := by decide +kernel
theorem dL_isAlikeSo_128 : decode cL_isAlikeSo 128 = .ok (.bipush 20, 2) := by decide +kernel
theorem dL_isAlikeSo_130 : decode cL_isAlikeSo 130 = .ok (.iconst 0, 1) := by decide +kernel
theorem dL_isAlikeSo_131 : decode cL_isAlikeSo 131 = .ok (.invokevirtual 92, 3) := by decide +kernel
theorem dL_isAlikeSo_134 : decode cL_isAlikeSo 134 = .ok (.aload_n 0, 1) := by decide +kernel
theorem dL_isAlikeSo_135 : decode cL_isAlikeSo 135 = .ok (.iload 4, 2) := by decide +kernel
theorem dL_isAlikeSo_137 : decode cL_isAlikeSo 137 = .ok (.iload_n 1, 1) := by decide +kernel
theorem dL_isAlikeSo_138 : decode cL_isAlikeSo 138 = .ok (.bipush 20, 2) := by decide +kernel
theorem dL_isAlikeSo_140 : decode cL_isAlikeSo 140 = .ok (.iconst 1, 1) := by decide +kernel
theorem dL_isAlikeSo_141 : decode cL_isAlikeSo 141 = .ok (.invokevirtual 92, 3) := by decide +kernel
theorem dL_isAlikeSo_144 : decode cL_isAlikeSo 144 = .ok (.if_icmp .gt 42, 3) := by decide +kernel
theorem dL_isAlikeSo_147 : decode cL_isAlikeSo 147 = .ok (.iload 5, 2) := by decide +kernel
theorem dL_isAlikeSo_149 : decode cL_isAlikeSo 149 = .ok (.ifCond .lt 33, 3) := by decide +kernel
theorem dL_isAlikeSo_152 : decode cL_isAlikeSo 152 = .ok (.aload_n 0, 1) := by decide +kernel
theorem dL_isAlikeSo_153 : decode cL_isAlikeSo 153 = .ok (.iload 4, 2) := by decide +kernel
theorem dL_isAlikeSo_155 : decode cL_isAlikeSo 155 = .ok (.iload_n 1, 1) := by decide +kernel
theorem dL_isAlikeSo_156 : decode cL_isAlikeSo 156 = .ok (.bipush 20, 2) := by decide +kernel
theorem dL_isAlikeSo_158 : decode cL_isAlikeSo 158 = .ok (.iconst 0, 1) := by decide +kernel
theorem dL_isAlikeSo_159 : decode cL_isAlikeSo 159 = .ok (.invokevirtual 92, 3) := by decide +kernel
theorem dL_isAlikeSo_162 : decode cL_isAlikeSo 162 = .ok (.iload 5, 2) := by decide +kernel
theorem dL_isAlikeSo_164 : decode cL_isAlikeSo 164 = .ok (.if_icmp .gt 22, 3) := by decide +kernel
theorem dL_isAlikeSo_167 : decode cL_isAlikeSo 167 = .ok (.aload_n 0, 1) := by decide +kernel
theorem dL_isAlikeSo_168 : decode cL_isAlikeSo 168 = .ok (.iload 4, 2) := by decide +kernel
theorem dL_isAlikeSo_170 : decode cL_isAlikeSo 170 = .ok (.iload_n 1, 1) := by decide +kernel
theorem dL_isAlikeSo_171 : decode cL_isAlikeSo 171 = .ok (.bipush 20, 2) := by decide +kernel
theorem dL_isAlikeSo_173 : decode cL_isAlikeSo 173 = .ok (.iconst 1, 1) := by decide +kernel
theorem dL_isAlikeSo_174 : decode cL_isAlikeSo 174 = .ok (.invokevirtual 92, 3) := by decide +kernel
theorem dL_isAlikeSo_177 : decode cL_isAlikeSo 177 = .ok (.iload 5, 2) := by decide +kernel
theorem dL_isAlikeSo_179 : decode cL_isAlikeSo 179 = .ok (.if_icmp .lt 7, 3) := by decide +kernel
theorem dL_isAlikeSo_182 : decode cL_isAlikeSo 182 = .ok (.iconst 1, 1) := by decide +kernel
theorem dL_isAlikeSo_183 : decode cL_isAlikeSo 183 = .ok (.goto 4, 3) := by decide +kernel
theorem dL_isAlikeSo_186 : decode cL_isAlikeSo 186 = .ok (.iconst 0, 1) := by decide +kernel
theorem dL_isAlikeSo_187 : decode cL_isAlikeSo 187 = .ok (.istore_n 3, 1) := by decide +kernel
theorem dL_isAlikeSo_188 : decode cL_isAlikeSo 188 = .ok (.iinc 4 1, 3) := by decide +kernel
theorem dL_isAlikeSo_191 : decode cL_isAlikeSo 191 = .ok (.goto (-121), 3) := by decide +kernel
theorem dL_isAlikeSo_194 : decode cL_isAlikeSo 194 = .ok (.iload_n 3, 1) := by decide +kernel
theorem dL_isAlikeSo_195 : decode cL_isAlikeSo 195 = .ok (.ireturn, 1) := by decide +kernel
theorem dL_law_0 : decode cL_law 0 = .ok (.new 9, 3) := by decide +kernel
theorem dL_law_3 : decode cL_law 3 = .ok (.dup, 1) := by decide +kernel
theorem dL_law_4 : decode cL_law 4 = .ok (.invokespecial 95, 3) := by decide +kernel
theorem dL_law_7 : decode cL_law 7 = .ok (.astore_n 1, 1) := by decide +kernel
theorem dL_law_8 : decode cL_law 8 = .ok (.iconst 0, 1) := by decide +kernel
theorem dL_law_9 : decode cL_law 9 = .ok (.istore_n 2, 1) := by decide +kernel
theorem dL_law_10 : decode cL_law 10 = .ok (.iload_n 2, 1) := by decide +kernel
theorem dL_law_11 : decode cL_law 11 = .ok (.bipush 52, 2) := by decide +kernel
theorem dL_law_13 : decode cL_law 13 = .ok (.if_icmp .ge 212, 3) := by decide +kernel
theorem dL_law_16 : decode cL_law 16 = .ok (.aload_n 0, 1) := by decide +kernel
theorem dL_law_17 : decode cL_law 17 = .ok (.iload_n 2, 1) := by decide +kernel
theorem dL_law_18 : decode cL_law 18 = .ok (.invokestatic 96, 3) := by decide +kernel
theorem dL_law_21 : decode cL_law 21 = .ok (.istore_n 3, 1) := by decide +kernel
theorem dL_law_22 : decode cL_law 22 = .ok (.iload_n 3, 1) := by decide +kernel
theorem dL_law_23 : decode cL_law 23 = .ok (.bipush 15, 2) := by decide +kernel
theorem dL_law_25 : decode cL_law 25 = .ok (.iand, 1) := by decide +kernel
theorem dL_law_26 : decode cL_law 26 = .ok (.istore 4, 2) := by decide +kernel
theorem dL_law_28 : decode cL_law 28 = .ok (.aload_n 1, 1) := by decide +kernel
theorem dL_law_29 : decode cL_law 29 = .ok (.iconst 0, 1) := by decide +kernel
theorem dL_law_30 : decode cL_law 30 = .ok (.invokevirtual 24, 3) := by decide +kernel
theorem dL_law_33 : decode cL_law 33 = .ok (.istore 5, 2) := by decide +kernel
theorem dL_law_35 : decode cL_law 35 = .ok (.aload_n 1, 1) := by decide +kernel
theorem dL_law_36 : decode cL_law 36 = .ok (.iload_n 3, 1) := by decide +kernel
theorem dL_law_37 : decode cL_law 37 = .ok (.invokestatic 100, 3) := by decide +kernel
theorem dL_law_40 : decode cL_law 40 = .ok (.istore 6, 2) := by decide +kernel
theorem dL_law_42 : decode cL_law 42 = .ok (.iload_n 3, 1) := by decide +kernel
theorem dL_law_43 : decode cL_law 43 = .ok (.iconst 5, 1) := by decide +kernel
theorem dL_law_44 : decode cL_law 44 = .ok (.ishr, 1) := by decide +kernel
theorem dL_law_45 : decode cL_law 45 = .ok (.sipush 1000, 3) := by decide +kernel
theorem dL_law_48 : decode cL_law 48 = .ok (.invokestatic 14, 3) := by decide +kernel
theorem dL_law_51 : decode cL_law 51 = .ok (.istore 7, 2) := by decide +kernel
theorem dL_law_53 : decode cL_law 53 = .ok (.iload 6, 2) := by decide +kernel
theorem dL_law_55 : decode cL_law 55 = .ok (.ifCond .lt 64, 3) := by decide +kernel
theorem dL_law_58 : decode cL_law 58 = .ok (.iload 4, 2) := by decide +kernel
theorem dL_law_60 : decode cL_law 60 = .ok (.iconst 4, 1) := by decide +kernel
theorem dL_law_61 : decode cL_law 61 = .ok (.if_icmp .gt 20, 3) := by decide +kernel
theorem dL_law_64 : decode cL_law 64 = .ok (.iload 6, 2) := by decide +kernel
theorem dL_law_66 : decode cL_law 66 = .ok (.iload 5, 2) := by decide +kernel
theorem dL_law_68 : decode cL_law 68 = .ok (.bipush 10, 2) := by decide +kernel
theorem dL_law_70 : decode cL_law 70 = .ok (.if_icmp .ge 7, 3) := by decide +kernel
theorem dL_law_73 : decode cL_law 73 = .ok (.iconst 1, 1) := by decide +kernel
theorem dL_law_74 : decode cL_law 74 = .ok (.goto 4, 3) := by decide +kernel
theorem dL_law_77 : decode cL_law 77 = .ok (.iconst 0, 1) := by decide +kernel
theorem dL_law_78 : decode cL_law 78 = .ok (.if_icmp .ne 41, 3) := by decide +kernel
theorem dL_law_81 : decode cL_law 81 = .ok (.iload 4, 2) := by decide +kernel
theorem dL_law_83 : decode cL_law 83 = .ok (.bipush 10, 2) := by decide +kernel
theorem dL_law_85 : decode cL_law 85 = .ok (.if_icmp .lt 30, 3) := by decide +kernel
theorem dL_law_88 : decode cL_law 88 = .ok (.iload 4, 2) := by decide +kernel
theorem dL_law_90 : decode cL_law 90 = .ok (.bipush 12, 2) := by decide +kernel
theorem dL_law_92 : decode cL_law 92 = .ok (.if_icmp .gt 23, 3) := by decide +kernel
theorem dL_law_95 : decode cL_law 95 = .ok (.aload_n 1, 1) := by decide +kernel
theorem dL_law_96 : decode cL_law 96 = .ok (.iconst 0, 1) := by decide +kernel
theorem dL_law_97 : decode cL_law 97 = .ok (.iconst 3, 1) := by decide +kernel
theorem dL_law_98 : decode cL_law 98 = .ok (.invokevirtual 76, 3) := by decide +kernel
theorem dL_law_101 : decode cL_law 101 = .ok (.ifCond .ne 18, 3) := by decide +kernel
theorem dL_law_104 : decode cL_law 104 = .ok (.aload_n 1, 1) := by decide +kernel
theorem dL_law_105 : decode cL_law 105 = .ok (.iconst 0, 1) := by decide +kernel
theorem dL_law_106 : decode cL_law 106 = .ok (.iconst 2, 1) := by decide +kernel
theorem dL_law_107 : decode cL_law 107 = .ok (.invokevirtual 76, 3) := by decide +kernel
theorem dL_law_110 : decode cL_law 110 = .ok (.iload 6, 2) := by decide +kernel
theorem dL_law_112 : decode cL_law 112 = .ok (.if_icmp .ne 7, 3) := by decide +kernel
theorem dL_law_115 : decode cL_law 115 = .ok (.iconst 1, 1) := by decide +kernel
theorem dL_law_116 : decode cL_law 116 = .ok (.goto 4, 3) := by decide +kernel
theorem dL_law_119 : decode cL_law 119 = .ok (.iconst 0, 1) := by decide +kernel
theorem dL_law_120 : decode cL_law 120 = .ok (.istore 8, 2) := by decide +kernel
theorem dL_law_122 : decode cL_law 122 = .ok (.iload 8, 2) := by decide +kernel
theorem dL_law_124 : decode cL_law 124 = .ok (.ifCond .eq 93, 3) := by decide +kernel
theorem dL_law_127 : decode cL_law 127 = .ok (.iload_n 2, 1) := by decide +kernel
theorem dL_law_128 : decode cL_law 128 = .ok (.iconst 2, 1) := by decide +kernel
theorem dL_law_129 : decode cL_law 129 = .ok (.irem, 1) := by decide +kernel
theorem dL_law_130 : decode cL_law 130 = .ok (.iconst 1, 1) := by decide +kernel
theorem dL_law_131 : decode cL_law 131 = .ok (.if_icmp .ne 20, 3) := by decide +kernel
theorem dL_law_134 : decode cL_law 134 = .ok (.aload_n 1, 1) := by decide +kernel
theorem dL_law_135 : decode cL_law 135 = .ok (.iload 7, 2) := by decide +kernel
theorem dL_law_137 : decode cL_law 137 = .ok (.iload_n 3, 1) := by decide +kernel
theorem dL_law_138 : decode cL_law 138 = .ok (.bipush 8, 2) := by decide +kernel
theorem dL_law_140 : decode cL_law 140 = .ok (.ishr, 1) := by decide +kernel
theorem dL_law_141 : decode cL_law 141 = .ok (.iconst 3, 1) := by decide +kernel
theorem dL_law_142 : decode cL_law 142 = .ok (.invokestatic 14, 3) := by decide +kernel
theorem dL_law_145 : decode cL_law 145 = .ok (.invokestatic 104, 3) := by decide +kernel
theorem dL_law_148 : decode cL_law 148 = .ok (.ifCond .eq 69, 3) := by decide +kernel
theorem dL_law_151 : decode cL_law 151 = .ok (.aload_n 1, 1) := by decide +kernel
theorem dL_law_152 : decode cL_law 152 = .ok (.iload 7, 2) := by decide +kernel
theorem dL_law_154 : decode cL_law 154 = .ok (.invokestatic 108, 3) := by decide +kernel
theorem dL_law_157 : decode cL_law 157 = .ok (.ifCond .eq 60, 3) := by decide +kernel
theorem dL_law_160 : decode cL_law 160 = .ok (.iload_n 2, 1) := by decide +kernel
theorem dL_law_161 : decode cL_law 161 = .ok (.iconst 4, 1) := by decide +kernel
theorem dL_law_162 : decode cL_law 162 = .ok (.irem, 1) := by decide +kernel
theorem dL_law_163 : decode cL_law 163 = .ok (.iconst 2, 1) := by decide +kernel
theorem dL_law_164 : decode cL_law 164 = .ok (.if_icmp .ne 10, 3) := by decide +kernel
theorem dL_law_167 : decode cL_law 167 = .ok (.aload_n 1, 1) := by decide +kernel
theorem dL_law_168 : decode cL_law 168 = .ok (.invokestatic 112, 3) := by decide +kernel
theorem dL_law_171 : decode cL_law 171 = .ok (.ifCond .eq 46, 3) := by decide +kernel
theorem dL_law_174 : decode cL_law 174 = .ok (.iload_n 2, 1) := by decide +kernel
theorem dL_law_175 : decode cL_law 175 = .ok (.bipush 11, 2) := by decide +kernel
theorem dL_law_177 : decode cL_law 177 = .ok (.irem, 1) := by decide +kernel
theorem dL_law_178 : decode cL_law 178 = .ok (.bipush 7, 2) := by decide +kernel
theorem dL_law_180 : decode cL_law 180 = .ok (.if_icmp .ne 20, 3) := by decide +kernel
theorem dL_law_183 : decode cL_law 183 = .ok (.aload_n 1, 1) := by decide +kernel
theorem dL_law_184 : decode cL_law 184 = .ok (.iload_n 3, 1) := by decide +kernel
theorem dL_law_185 : decode cL_law 185 = .ok (.bipush 6, 2) := by decide +kernel
theorem dL_law_187 : decode cL_law 187 = .ok (.ishr, 1) := by decide +kernel
theorem dL_law_188 : decode cL_law 188 = .ok (.iconst 3, 1) := by decide +kernel
theorem dL_law_189 : decode cL_law 189 = .ok (.invokestatic 14, 3) := by decide +kernel
theorem dL_law_192 : decode cL_law 192 = .ok (.iload 7, 2) := by decide +kernel
theorem dL_law_194 : decode cL_law 194 = .ok (.invokestatic 116, 3) := by decide +kernel
theorem dL_law_197 : decode cL_law 197 = .ok (.ifCond .eq 20, 3) := by decide +kernel
theorem dL_law_200 : decode cL_law 200 = .ok (.iload_n 2, 1) := by decide +kernel
theorem dL_law_201 : decode cL_law 201 = .ok (.bipush 9, 2) := by decide +kernel
theorem dL_law_203 : decode cL_law 203 = .ok (.irem, 1) := by decide +kernel
theorem dL_law_204 : decode cL_law 204 = .ok (.iconst 4, 1) := by decide +kernel
theorem dL_law_205 : decode cL_law 205 = .ok (.if_icmp .ne 14, 3) := by decide +kernel
theorem dL_law_208 : decode cL_law 208 = .ok (.aload_n 1, 1) := by decide +kernel
theorem dL_law_209 : decode cL_law 209 = .ok (.iload 7, 2) := by decide +kernel
theorem dL_law_211 : decode cL_law 211 = .ok (.invokestatic 119, 3) := by decide +kernel
theorem dL_law_214 : decode cL_law 214 = .ok (.ifCond .ne 5, 3) := by decide +kernel
theorem dL_law_217 : decode cL_law 217 = .ok (.iconst 0, 1) := by decide +kernel
theorem dL_law_218 : decode cL_law 218 = .ok (.ireturn, 1) := by decide +kernel
theorem dL_law_219 : decode cL_law 219 = .ok (.iinc 2 1, 3) := by decide +kernel
theorem dL_law_222 : decode cL_law 222 = .ok (.goto (-212), 3) := by decide +kernel
theorem dL_law_225 : decode cL_law 225 = .ok (.iconst 1, 1) := by decide +kernel
theorem dL_law_226 : decode cL_law 226 = .ok (.ireturn, 1) := by decide +kernel
