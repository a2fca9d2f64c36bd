theorem dX0_init_0 : decode cX0_init 0 = .ok (.aload_n 0, 1) := by decide +kernel
theorem dX0_init_1 : decode cX0_init 1 = .ok (.invokespecial 3, 3) := by decide +kernel
theorem dX0_init_4 : decode cX0_init 4 = .ok (.aload_n 0, 1) := by decide +kernel
theorem dX0_init_5 : decode cX0_init 5 = .ok (.iconst 0, 1) := by decide +kernel
theorem dX0_init_6 : decode cX0_init 6 = .ok (.putfield 9, 3) := by decide +kernel
theorem dX0_init_9 : decode cX0_init 9 = .ok (.aload_n 0, 1) := by decide +kernel
theorem dX0_init_10 : decode cX0_init 10 = .ok (.iconst 0, 1) := by decide +kernel
theorem dX0_init_11 : decode cX0_init 11 = .ok (.putfield 15, 3) := by decide +kernel
theorem dX0_init_14 : decode cX0_init 14 = .ok (.aload_n 0, 1) := by decide +kernel
theorem dX0_init_15 : decode cX0_init 15 = .ok (.iconst 0, 1) := by decide +kernel
theorem dX0_init_16 : decode cX0_init 16 = .ok (.putfield 18, 3) := by decide +kernel
theorem dX0_init_19 : decode cX0_init 19 = .ok (.aload_n 0, 1) := by decide +kernel
theorem dX0_init_20 : decode cX0_init 20 = .ok (.aload_n 1, 1) := by decide +kernel
theorem dX0_init_21 : decode cX0_init 21 = .ok (.putfield 21, 3) := by decide +kernel
theorem dX0_init_24 : decode cX0_init 24 = .ok (.return_, 1) := by decide +kernel
theorem dX0_readBeach_0 : decode cX0_readBeach 0 = .ok (.aload_n 3, 1) := by decide +kernel
theorem dX0_readBeach_1 : decode cX0_readBeach 1 = .ok (.invokevirtual 25, 3) := by decide +kernel
theorem dX0_readBeach_4 : decode cX0_readBeach 4 = .ok (.aload_n 0, 1) := by decide +kernel
theorem dX0_readBeach_5 : decode cX0_readBeach 5 = .ok (.iconst 0, 1) := by decide +kernel
theorem dX0_readBeach_6 : decode cX0_readBeach 6 = .ok (.putfield 9, 3) := by decide +kernel
theorem dX0_readBeach_9 : decode cX0_readBeach 9 = .ok (.aload_n 0, 1) := by decide +kernel
theorem dX0_readBeach_10 : decode cX0_readBeach 10 = .ok (.iconst 0, 1) := by decide +kernel
theorem dX0_readBeach_11 : decode cX0_readBeach 11 = .ok (.putfield 15, 3) := by decide +kernel
theorem dX0_readBeach_14 : decode cX0_readBeach 14 = .ok (.aload_n 0, 1) := by decide +kernel
theorem dX0_readBeach_15 : decode cX0_readBeach 15 = .ok (.iconst 0, 1) := by decide +kernel
theorem dX0_readBeach_16 : decode cX0_readBeach 16 = .ok (.putfield 18, 3) := by decide +kernel
theorem dX0_readBeach_19 : decode cX0_readBeach 19 = .ok (.aload_n 0, 1) := by decide +kernel
theorem dX0_readBeach_20 : decode cX0_readBeach 20 = .ok (.getfield 21, 3) := by decide +kernel
theorem dX0_readBeach_23 : decode cX0_readBeach 23 = .ok (.aload_n 1, 1) := by decide +kernel
theorem dX0_readBeach_24 : decode cX0_readBeach 24 = .ok (.iload_n 2, 1) := by decide +kernel
theorem dX0_readBeach_25 : decode cX0_readBeach 25 = .ok (.invokevirtual 30, 3) := by decide +kernel
theorem dX0_readBeach_28 : decode cX0_readBeach 28 = .ok (.iconst 0, 1) := by decide +kernel
theorem dX0_readBeach_29 : decode cX0_readBeach 29 = .ok (.istore 4, 2) := by decide +kernel
theorem dX0_readBeach_31 : decode cX0_readBeach 31 = .ok (.iload 4, 2) := by decide +kernel
theorem dX0_readBeach_33 : decode cX0_readBeach 33 = .ok (.bipush 60, 2) := by decide +kernel
theorem dX0_readBeach_35 : decode cX0_readBeach 35 = .ok (.if_icmp .gt 45, 3) := by decide +kernel
theorem dX0_readBeach_38 : decode cX0_readBeach 38 = .ok (.aload_n 0, 1) := by decide +kernel
theorem dX0_readBeach_39 : decode cX0_readBeach 39 = .ok (.getfield 21, 3) := by decide +kernel
theorem dX0_readBeach_42 : decode cX0_readBeach 42 = .ok (.invokevirtual 36, 3) := by decide +kernel
theorem dX0_readBeach_45 : decode cX0_readBeach 45 = .ok (.ifCond .eq 35, 3) := by decide +kernel
theorem dX0_readBeach_48 : decode cX0_readBeach 48 = .ok (.aload_n 0, 1) := by decide +kernel
theorem dX0_readBeach_49 : decode cX0_readBeach 49 = .ok (.aload_n 3, 1) := by decide +kernel
theorem dX0_readBeach_50 : decode cX0_readBeach 50 = .ok (.iload 4, 2) := by decide +kernel
theorem dX0_readBeach_52 : decode cX0_readBeach 52 = .ok (.bipush 60, 2) := by decide +kernel
theorem dX0_readBeach_54 : decode cX0_readBeach 54 = .ok (.if_icmp .ne 7, 3) := by decide +kernel
theorem dX0_readBeach_57 : decode cX0_readBeach 57 = .ok (.iconst 1, 1) := by decide +kernel
theorem dX0_readBeach_58 : decode cX0_readBeach 58 = .ok (.goto 4, 3) := by decide +kernel
theorem dX0_readBeach_61 : decode cX0_readBeach 61 = .ok (.iconst 0, 1) := by decide +kernel
theorem dX0_readBeach_62 : decode cX0_readBeach 62 = .ok (.invokevirtual 40, 3) := by decide +kernel
theorem dX0_readBeach_65 : decode cX0_readBeach 65 = .ok (.aload_n 0, 1) := by decide +kernel
theorem dX0_readBeach_66 : decode cX0_readBeach 66 = .ok (.getfield 21, 3) := by decide +kernel
theorem dX0_readBeach_69 : decode cX0_readBeach 69 = .ok (.bipush 59, 2) := by decide +kernel
theorem dX0_readBeach_71 : decode cX0_readBeach 71 = .ok (.invokevirtual 44, 3) := by decide +kernel
theorem dX0_readBeach_74 : decode cX0_readBeach 74 = .ok (.iinc 4 1, 3) := by decide +kernel
theorem dX0_readBeach_77 : decode cX0_readBeach 77 = .ok (.goto (-46), 3) := by decide +kernel
theorem dX0_readBeach_80 : decode cX0_readBeach 80 = .ok (.aload_n 0, 1) := by decide +kernel
theorem dX0_readBeach_81 : decode cX0_readBeach 81 = .ok (.getfield 21, 3) := by decide +kernel
theorem dX0_readBeach_84 : decode cX0_readBeach 84 = .ok (.getfield 48, 3) := by decide +kernel
theorem dX0_readBeach_87 : decode cX0_readBeach 87 = .ok (.ireturn, 1) := by decide +kernel
theorem dX0_readClause_0 : decode cX0_readClause 0 = .ok (.aload_n 0, 1) := by decide +kernel
theorem dX0_readClause_1 : decode cX0_readClause 1 = .ok (.getfield 21, 3) := by decide +kernel
theorem dX0_readClause_4 : decode cX0_readClause 4 = .ok (.ldc 52, 2) := by decide +kernel
theorem dX0_readClause_6 : decode cX0_readClause 6 = .ok (.invokevirtual 54, 3) := by decide +kernel
theorem dX0_readClause_9 : decode cX0_readClause 9 = .ok (.ifCond .ne 15, 3) := by decide +kernel
theorem dX0_readClause_12 : decode cX0_readClause 12 = .ok (.aload_n 0, 1) := by decide +kernel
theorem dX0_readClause_13 : decode cX0_readClause 13 = .ok (.getfield 21, 3) := by decide +kernel
theorem dX0_readClause_16 : decode cX0_readClause 16 = .ok (.ldc 58, 2) := by decide +kernel
theorem dX0_readClause_18 : decode cX0_readClause 18 = .ok (.invokevirtual 54, 3) := by decide +kernel
theorem dX0_readClause_21 : decode cX0_readClause 21 = .ok (.ifCond .eq 12, 3) := by decide +kernel
theorem dX0_readClause_24 : decode cX0_readClause 24 = .ok (.aload_n 0, 1) := by decide +kernel
theorem dX0_readClause_25 : decode cX0_readClause 25 = .ok (.aload_n 1, 1) := by decide +kernel
theorem dX0_readClause_26 : decode cX0_readClause 26 = .ok (.iload_n 2, 1) := by decide +kernel
theorem dX0_readClause_27 : decode cX0_readClause 27 = .ok (.invokevirtual 60, 3) := by decide +kernel
theorem dX0_readClause_30 : decode cX0_readClause 30 = .ok (.goto 176, 3) := by decide +kernel
theorem dX0_readClause_33 : decode cX0_readClause 33 = .ok (.aload_n 0, 1) := by decide +kernel
theorem dX0_readClause_34 : decode cX0_readClause 34 = .ok (.getfield 21, 3) := by decide +kernel
theorem dX0_readClause_37 : decode cX0_readClause 37 = .ok (.ldc 63, 2) := by decide +kernel
theorem dX0_readClause_39 : decode cX0_readClause 39 = .ok (.invokevirtual 54, 3) := by decide +kernel
theorem dX0_readClause_42 : decode cX0_readClause 42 = .ok (.ifCond .eq 12, 3) := by decide +kernel
theorem dX0_readClause_45 : decode cX0_readClause 45 = .ok (.aload_n 0, 1) := by decide +kernel
theorem dX0_readClause_46 : decode cX0_readClause 46 = .ok (.aload_n 1, 1) := by decide +kernel
theorem dX0_readClause_47 : decode cX0_readClause 47 = .ok (.iload_n 2, 1) := by decide +kernel
theorem dX0_readClause_48 : decode cX0_readClause 48 = .ok (.invokevirtual 65, 3) := by decide +kernel
theorem dX0_readClause_51 : decode cX0_readClause 51 = .ok (.goto 155, 3) := by decide +kernel
theorem dX0_readClause_54 : decode cX0_readClause 54 = .ok (.aload_n 0, 1) := by decide +kernel
theorem dX0_readClause_55 : decode cX0_readClause 55 = .ok (.getfield 21, 3) := by decide +kernel
theorem dX0_readClause_58 : decode cX0_readClause 58 = .ok (.ldc 68, 2) := by decide +kernel
theorem dX0_readClause_60 : decode cX0_readClause 60 = .ok (.invokevirtual 54, 3) := by decide +kernel
theorem dX0_readClause_63 : decode cX0_readClause 63 = .ok (.ifCond .eq 42, 3) := by decide +kernel
theorem dX0_readClause_66 : decode cX0_readClause 66 = .ok (.aload_n 0, 1) := by decide +kernel
theorem dX0_readClause_67 : decode cX0_readClause 67 = .ok (.iload_n 2, 1) := by decide +kernel
theorem dX0_readClause_68 : decode cX0_readClause 68 = .ok (.invokevirtual 70, 3) := by decide +kernel
theorem dX0_readClause_71 : decode cX0_readClause 71 = .ok (.aload_n 0, 1) := by decide +kernel
theorem dX0_readClause_72 : decode cX0_readClause 72 = .ok (.getfield 21, 3) := by decide +kernel
theorem dX0_readClause_75 : decode cX0_readClause 75 = .ok (.iconst 0, 1) := by decide +kernel
theorem dX0_readClause_76 : decode cX0_readClause 76 = .ok (.aload_n 1, 1) := by decide +kernel
theorem dX0_readClause_77 : decode cX0_readClause 77 = .ok (.getfield 74, 3) := by decide +kernel
theorem dX0_readClause_80 : decode cX0_readClause 80 = .ok (.iconst 1, 1) := by decide +kernel
theorem dX0_readClause_81 : decode cX0_readClause 81 = .ok (.isub, 1) := by decide +kernel
theorem dX0_readClause_82 : decode cX0_readClause 82 = .ok (.invokevirtual 76, 3) := by decide +kernel
theorem dX0_readClause_85 : decode cX0_readClause 85 = .ok (.istore_n 3, 1) := by decide +kernel
theorem dX0_readClause_86 : decode cX0_readClause 86 = .ok (.aload_n 1, 1) := by decide +kernel
theorem dX0_readClause_87 : decode cX0_readClause 87 = .ok (.getfield 80, 3) := by decide +kernel
theorem dX0_readClause_90 : decode cX0_readClause 90 = .ok (.iload_n 3, 1) := by decide +kernel
theorem dX0_readClause_91 : decode cX0_readClause 91 = .ok (.aload_n 0, 1) := by decide +kernel
theorem dX0_readClause_92 : decode cX0_readClause 92 = .ok (.getfield 21, 3) := by decide +kernel
theorem dX0_readClause_95 : decode cX0_readClause 95 = .ok (.iconst 1, 1) := by decide +kernel
theorem dX0_readClause_96 : decode cX0_readClause 96 = .ok (.bipush 60, 2) := by decide +kernel
theorem dX0_readClause_98 : decode cX0_readClause 98 = .ok (.invokevirtual 76, 3) := by decide +kernel
theorem dX0_readClause_101 : decode cX0_readClause 101 = .ok (.iastore, 1) := by decide +kernel
theorem dX0_readClause_102 : decode cX0_readClause 102 = .ok (.goto 104, 3) := by decide +kernel
theorem dX0_readClause_105 : decode cX0_readClause 105 = .ok (.aload_n 0, 1) := by decide +kernel
theorem dX0_readClause_106 : decode cX0_readClause 106 = .ok (.getfield 21, 3) := by decide +kernel
theorem dX0_readClause_109 : decode cX0_readClause 109 = .ok (.ldc 84, 2) := by decide +kernel
theorem dX0_readClause_111 : decode cX0_readClause 111 = .ok (.invokevirtual 54, 3) := by decide +kernel
theorem dX0_readClause_114 : decode cX0_readClause 114 = .ok (.ifCond .eq 42, 3) := by decide +kernel
theorem dX0_readClause_117 : decode cX0_readClause 117 = .ok (.aload_n 0, 1) := by decide +kernel
theorem dX0_readClause_118 : decode cX0_readClause 118 = .ok (.iload_n 2, 1) := by decide +kernel
theorem dX0_readClause_119 : decode cX0_readClause 119 = .ok (.invokevirtual 70, 3) := by decide +kernel
theorem dX0_readClause_122 : decode cX0_readClause 122 = .ok (.aload_n 0, 1) := by decide +kernel
theorem dX0_readClause_123 : decode cX0_readClause 123 = .ok (.getfield 21, 3) := by decide +kernel
theorem dX0_readClause_126 : decode cX0_readClause 126 = .ok (.iconst 0, 1) := by decide +kernel
theorem dX0_readClause_127 : decode cX0_readClause 127 = .ok (.aload_n 1, 1) := by decide +kernel
theorem dX0_readClause_128 : decode cX0_readClause 128 = .ok (.getfield 74, 3) := by decide +kernel
theorem dX0_readClause_131 : decode cX0_readClause 131 = .ok (.iconst 2, 1) := by decide +kernel
theorem dX0_readClause_132 : decode cX0_readClause 132 = .ok (.isub, 1) := by decide +kernel
theorem dX0_readClause_133 : decode cX0_readClause 133 = .ok (.invokevirtual 76, 3) := by decide +kernel
theorem dX0_readClause_136 : decode cX0_readClause 136 = .ok (.istore_n 3, 1) := by decide +kernel
theorem dX0_readClause_137 : decode cX0_readClause 137 = .ok (.aload_n 1, 1) := by decide +kernel
theorem dX0_readClause_138 : decode cX0_readClause 138 = .ok (.getfield 86, 3) := by decide +kernel
theorem dX0_readClause_141 : decode cX0_readClause 141 = .ok (.iload_n 3, 1) := by decide +kernel
theorem dX0_readClause_142 : decode cX0_readClause 142 = .ok (.aload_n 0, 1) := by decide +kernel
theorem dX0_readClause_143 : decode cX0_readClause 143 = .ok (.getfield 21, 3) := by decide +kernel
theorem dX0_readClause_146 : decode cX0_readClause 146 = .ok (.iconst 1, 1) := by decide +kernel
theorem dX0_readClause_147 : decode cX0_readClause 147 = .ok (.bipush 16, 2) := by decide +kernel
theorem dX0_readClause_149 : decode cX0_readClause 149 = .ok (.invokevirtual 76, 3) := by decide +kernel
theorem dX0_readClause_152 : decode cX0_readClause 152 = .ok (.iastore, 1) := by decide +kernel
theorem dX0_readClause_153 : decode cX0_readClause 153 = .ok (.goto 53, 3) := by decide +kernel
theorem dX0_readClause_156 : decode cX0_readClause 156 = .ok (.aload_n 0, 1) := by decide +kernel
theorem dX0_readClause_157 : decode cX0_readClause 157 = .ok (.getfield 21, 3) := by decide +kernel
theorem dX0_readClause_160 : decode cX0_readClause 160 = .ok (.ldc 89, 2) := by decide +kernel
theorem dX0_readClause_162 : decode cX0_readClause 162 = .ok (.invokevirtual 54, 3) := by decide +kernel
theorem dX0_readClause_165 : decode cX0_readClause 165 = .ok (.ifCond .eq 12, 3) := by decide +kernel
theorem dX0_readClause_168 : decode cX0_readClause 168 = .ok (.aload_n 0, 1) := by decide +kernel
theorem dX0_readClause_169 : decode cX0_readClause 169 = .ok (.aload_n 1, 1) := by decide +kernel
theorem dX0_readClause_170 : decode cX0_readClause 170 = .ok (.iload_n 2, 1) := by decide +kernel
theorem dX0_readClause_171 : decode cX0_readClause 171 = .ok (.invokevirtual 91, 3) := by decide +kernel
theorem dX0_readClause_174 : decode cX0_readClause 174 = .ok (.goto 32, 3) := by decide +kernel
theorem dX0_readClause_177 : decode cX0_readClause 177 = .ok (.aload_n 0, 1) := by decide +kernel
theorem dX0_readClause_178 : decode cX0_readClause 178 = .ok (.getfield 21, 3) := by decide +kernel
theorem dX0_readClause_181 : decode cX0_readClause 181 = .ok (.ldc 94, 2) := by decide +kernel
theorem dX0_readClause_183 : decode cX0_readClause 183 = .ok (.invokevirtual 54, 3) := by decide +kernel
theorem dX0_readClause_186 : decode cX0_readClause 186 = .ok (.ifCond .eq 12, 3) := by decide +kernel
theorem dX0_readClause_189 : decode cX0_readClause 189 = .ok (.aload_n 0, 1) := by decide +kernel
theorem dX0_readClause_190 : decode cX0_readClause 190 = .ok (.aload_n 1, 1) := by decide +kernel
theorem dX0_readClause_191 : decode cX0_readClause 191 = .ok (.iload_n 2, 1) := by decide +kernel
theorem dX0_readClause_192 : decode cX0_readClause 192 = .ok (.invokevirtual 96, 3) := by decide +kernel
theorem dX0_readClause_195 : decode cX0_readClause 195 = .ok (.goto 11, 3) := by decide +kernel
theorem dX0_readClause_198 : decode cX0_readClause 198 = .ok (.aload_n 0, 1) := by decide +kernel
theorem dX0_readClause_199 : decode cX0_readClause 199 = .ok (.getfield 21, 3) := by decide +kernel
theorem dX0_readClause_202 : decode cX0_readClause 202 = .ok (.iconst 1, 1) := by decide +kernel
theorem dX0_readClause_203 : decode cX0_readClause 203 = .ok (.invokevirtual 99, 3) := by decide +kernel
theorem dX0_readClause_206 : decode cX0_readClause 206 = .ok (.return_, 1) := by decide +kernel
theorem dX0_readExtent_0 : decode cX0_readExtent 0 = .ok (.aload_n 0, 1) := by decide +kernel
theorem dX0_readExtent_1 : decode cX0_readExtent 1 = .ok (.getfield 21, 3) := by decide +kernel
theorem dX0_readExtent_4 : decode cX0_readExtent 4 = .ok (.ldc 52, 2) := by decide +kernel
theorem dX0_readExtent_6 : decode cX0_readExtent 6 = .ok (.invokevirtual 54, 3) := by decide +kernel
theorem dX0_readExtent_9 : decode cX0_readExtent 9 = .ok (.istore_n 3, 1) := by decide +kernel
theorem dX0_readExtent_10 : decode cX0_readExtent 10 = .ok (.iload_n 2, 1) := by decide +kernel
theorem dX0_readExtent_11 : decode cX0_readExtent 11 = .ok (.ifCond .eq 14, 3) := by decide +kernel
theorem dX0_readExtent_14 : decode cX0_readExtent 14 = .ok (.aload_n 0, 1) := by decide +kernel
theorem dX0_readExtent_15 : decode cX0_readExtent 15 = .ok (.getfield 21, 3) := by decide +kernel
theorem dX0_readExtent_18 : decode cX0_readExtent 18 = .ok (.iconst 3, 1) := by decide +kernel
theorem dX0_readExtent_19 : decode cX0_readExtent 19 = .ok (.invokevirtual 99, 3) := by decide +kernel
theorem dX0_readExtent_22 : decode cX0_readExtent 22 = .ok (.goto 39, 3) := by decide +kernel
theorem dX0_readExtent_25 : decode cX0_readExtent 25 = .ok (.aload_n 0, 1) := by decide +kernel
theorem dX0_readExtent_26 : decode cX0_readExtent 26 = .ok (.getfield 18, 3) := by decide +kernel
theorem dX0_readExtent_29 : decode cX0_readExtent 29 = .ok (.ifCond .ne 24, 3) := by decide +kernel
theorem dX0_readExtent_32 : decode cX0_readExtent 32 = .ok (.iload_n 3, 1) := by decide +kernel
theorem dX0_readExtent_33 : decode cX0_readExtent 33 = .ok (.ifCond .eq 13, 3) := by decide +kernel
theorem dX0_readExtent_36 : decode cX0_readExtent 36 = .ok (.aload_n 0, 1) := by decide +kernel
theorem dX0_readExtent_37 : decode cX0_readExtent 37 = .ok (.getfield 9, 3) := by decide +kernel
theorem dX0_readExtent_40 : decode cX0_readExtent 40 = .ok (.ifCond .eq 21, 3) := by decide +kernel
theorem dX0_readExtent_43 : decode cX0_readExtent 43 = .ok (.goto 10, 3) := by decide +kernel
theorem dX0_readExtent_46 : decode cX0_readExtent 46 = .ok (.aload_n 0, 1) := by decide +kernel
theorem dX0_readExtent_47 : decode cX0_readExtent 47 = .ok (.getfield 15, 3) := by decide +kernel
theorem dX0_readExtent_50 : decode cX0_readExtent 50 = .ok (.ifCond .eq 11, 3) := by decide +kernel
theorem dX0_readExtent_53 : decode cX0_readExtent 53 = .ok (.aload_n 0, 1) := by decide +kernel
theorem dX0_readExtent_54 : decode cX0_readExtent 54 = .ok (.getfield 21, 3) := by decide +kernel
theorem dX0_readExtent_57 : decode cX0_readExtent 57 = .ok (.iconst 4, 1) := by decide +kernel
theorem dX0_readExtent_58 : decode cX0_readExtent 58 = .ok (.invokevirtual 99, 3) := by decide +kernel
theorem dX0_readExtent_61 : decode cX0_readExtent 61 = .ok (.aload_n 0, 1) := by decide +kernel
theorem dX0_readExtent_62 : decode cX0_readExtent 62 = .ok (.getfield 21, 3) := by decide +kernel
theorem dX0_readExtent_65 : decode cX0_readExtent 65 = .ok (.invokevirtual 103, 3) := by decide +kernel
theorem dX0_readExtent_68 : decode cX0_readExtent 68 = .ok (.iload_n 3, 1) := by decide +kernel
theorem dX0_readExtent_69 : decode cX0_readExtent 69 = .ok (.ifCond .eq 25, 3) := by decide +kernel
theorem dX0_readExtent_72 : decode cX0_readExtent 72 = .ok (.aload_n 0, 1) := by decide +kernel
theorem dX0_readExtent_73 : decode cX0_readExtent 73 = .ok (.iconst 1, 1) := by decide +kernel
theorem dX0_readExtent_74 : decode cX0_readExtent 74 = .ok (.putfield 9, 3) := by decide +kernel
theorem dX0_readExtent_77 : decode cX0_readExtent 77 = .ok (.aload_n 1, 1) := by decide +kernel
theorem dX0_readExtent_78 : decode cX0_readExtent 78 = .ok (.aload_n 0, 1) := by decide +kernel
theorem dX0_readExtent_79 : decode cX0_readExtent 79 = .ok (.getfield 21, 3) := by decide +kernel
theorem dX0_readExtent_82 : decode cX0_readExtent 82 = .ok (.iconst 2, 1) := by decide +kernel
theorem dX0_readExtent_83 : decode cX0_readExtent 83 = .ok (.bipush 12, 2) := by decide +kernel
theorem dX0_readExtent_85 : decode cX0_readExtent 85 = .ok (.invokevirtual 76, 3) := by decide +kernel
theorem dX0_readExtent_88 : decode cX0_readExtent 88 = .ok (.putfield 74, 3) := by decide +kernel
theorem dX0_readExtent_91 : decode cX0_readExtent 91 = .ok (.goto 22, 3) := by decide +kernel
theorem dX0_readExtent_94 : decode cX0_readExtent 94 = .ok (.aload_n 0, 1) := by decide +kernel
theorem dX0_readExtent_95 : decode cX0_readExtent 95 = .ok (.iconst 1, 1) := by decide +kernel
theorem dX0_readExtent_96 : decode cX0_readExtent 96 = .ok (.putfield 15, 3) := by decide +kernel
theorem dX0_readExtent_99 : decode cX0_readExtent 99 = .ok (.aload_n 1, 1) := by decide +kernel
theorem dX0_readExtent_100 : decode cX0_readExtent 100 = .ok (.aload_n 0, 1) := by decide +kernel
theorem dX0_readExtent_101 : decode cX0_readExtent 101 = .ok (.getfield 21, 3) := by decide +kernel
theorem dX0_readExtent_104 : decode cX0_readExtent 104 = .ok (.iconst 2, 1) := by decide +kernel
theorem dX0_readExtent_105 : decode cX0_readExtent 105 = .ok (.bipush 6, 2) := by decide +kernel
theorem dX0_readExtent_107 : decode cX0_readExtent 107 = .ok (.invokevirtual 76, 3) := by decide +kernel
theorem dX0_readExtent_110 : decode cX0_readExtent 110 = .ok (.putfield 106, 3) := by decide +kernel
theorem dX0_readExtent_113 : decode cX0_readExtent 113 = .ok (.return_, 1) := by decide +kernel
theorem dX0_beginOther_0 : decode cX0_beginOther 0 = .ok (.iload_n 1, 1) := by decide +kernel
theorem dX0_beginOther_1 : decode cX0_beginOther 1 = .ok (.ifCond .eq 11, 3) := by decide +kernel
theorem dX0_beginOther_4 : decode cX0_beginOther 4 = .ok (.aload_n 0, 1) := by decide +kernel
theorem dX0_beginOther_5 : decode cX0_beginOther 5 = .ok (.getfield 21, 3) := by decide +kernel
theorem dX0_beginOther_8 : decode cX0_beginOther 8 = .ok (.iconst 3, 1) := by decide +kernel
theorem dX0_beginOther_9 : decode cX0_beginOther 9 = .ok (.invokevirtual 99, 3) := by decide +kernel
theorem dX0_beginOther_12 : decode cX0_beginOther 12 = .ok (.aload_n 0, 1) := by decide +kernel
theorem dX0_beginOther_13 : decode cX0_beginOther 13 = .ok (.iconst 1, 1) := by decide +kernel
theorem dX0_beginOther_14 : decode cX0_beginOther 14 = .ok (.putfield 18, 3) := by decide +kernel
theorem dX0_beginOther_17 : decode cX0_beginOther 17 = .ok (.aload_n 0, 1) := by decide +kernel
theorem dX0_beginOther_18 : decode cX0_beginOther 18 = .ok (.getfield 21, 3) := by decide +kernel
theorem dX0_beginOther_21 : decode cX0_beginOther 21 = .ok (.invokevirtual 103, 3) := by decide +kernel
theorem dX0_beginOther_24 : decode cX0_beginOther 24 = .ok (.return_, 1) := by decide +kernel
theorem dX0_needHeap_0 : decode cX0_needHeap 0 = .ok (.aload_n 0, 1) := by decide +kernel
theorem dX0_needHeap_1 : decode cX0_needHeap 1 = .ok (.getfield 21, 3) := by decide +kernel
theorem dX0_needHeap_4 : decode cX0_needHeap 4 = .ok (.iconst 0, 1) := by decide +kernel
theorem dX0_needHeap_5 : decode cX0_needHeap 5 = .ok (.aload_n 1, 1) := by decide +kernel
theorem dX0_needHeap_6 : decode cX0_needHeap 6 = .ok (.getfield 74, 3) := by decide +kernel
theorem dX0_needHeap_9 : decode cX0_needHeap 9 = .ok (.iconst 1, 1) := by decide +kernel
theorem dX0_needHeap_10 : decode cX0_needHeap 10 = .ok (.isub, 1) := by decide +kernel
theorem dX0_needHeap_11 : decode cX0_needHeap 11 = .ok (.invokevirtual 76, 3) := by decide +kernel
theorem dX0_needHeap_14 : decode cX0_needHeap 14 = .ok (.istore_n 2, 1) := by decide +kernel
theorem dX0_needHeap_15 : decode cX0_needHeap 15 = .ok (.aload_n 0, 1) := by decide +kernel
theorem dX0_needHeap_16 : decode cX0_needHeap 16 = .ok (.getfield 21, 3) := by decide +kernel
theorem dX0_needHeap_19 : decode cX0_needHeap 19 = .ok (.iconst 0, 1) := by decide +kernel
theorem dX0_needHeap_20 : decode cX0_needHeap 20 = .ok (.aload_n 1, 1) := by decide +kernel
theorem dX0_needHeap_21 : decode cX0_needHeap 21 = .ok (.getfield 106, 3) := by decide +kernel
theorem dX0_needHeap_24 : decode cX0_needHeap 24 = .ok (.iconst 1, 1) := by decide +kernel
theorem dX0_needHeap_25 : decode cX0_needHeap 25 = .ok (.isub, 1) := by decide +kernel
theorem dX0_needHeap_26 : decode cX0_needHeap 26 = .ok (.invokevirtual 76, 3) := by decide +kernel
theorem dX0_needHeap_29 : decode cX0_needHeap 29 = .ok (.istore_n 3, 1) := by decide +kernel
theorem dX0_needHeap_30 : decode cX0_needHeap 30 = .ok (.aload_n 0, 1) := by decide +kernel
theorem dX0_needHeap_31 : decode cX0_needHeap 31 = .ok (.getfield 21, 3) := by decide +kernel
theorem dX0_needHeap_34 : decode cX0_needHeap 34 = .ok (.iconst 0, 1) := by decide +kernel
theorem dX0_needHeap_35 : decode cX0_needHeap 35 = .ok (.iconst 2, 1) := by decide +kernel
theorem dX0_needHeap_36 : decode cX0_needHeap 36 = .ok (.invokevirtual 76, 3) := by decide +kernel
theorem dX0_needHeap_39 : decode cX0_needHeap 39 = .ok (.istore 4, 2) := by decide +kernel
theorem dX0_needHeap_41 : decode cX0_needHeap 41 = .ok (.iload_n 2, 1) := by decide +kernel
theorem dX0_needHeap_42 : decode cX0_needHeap 42 = .ok (.iload_n 3, 1) := by decide +kernel
theorem dX0_needHeap_43 : decode cX0_needHeap 43 = .ok (.iload 4, 2) := by decide +kernel
theorem dX0_needHeap_45 : decode cX0_needHeap 45 = .ok (.invokestatic 108, 3) := by decide +kernel
theorem dX0_needHeap_48 : decode cX0_needHeap 48 = .ok (.ireturn, 1) := by decide +kernel
theorem dX0_readHeap_0 : decode cX0_readHeap 0 = .ok (.aload_n 0, 1) := by decide +kernel
theorem dX0_readHeap_1 : decode cX0_readHeap 1 = .ok (.iload_n 2, 1) := by decide +kernel
theorem dX0_readHeap_2 : decode cX0_readHeap 2 = .ok (.invokevirtual 70, 3) := by decide +kernel
theorem dX0_readHeap_5 : decode cX0_readHeap 5 = .ok (.aload_n 0, 1) := by decide +kernel
theorem dX0_readHeap_6 : decode cX0_readHeap 6 = .ok (.aload_n 1, 1) := by decide +kernel
theorem dX0_readHeap_7 : decode cX0_readHeap 7 = .ok (.invokevirtual 114, 3) := by decide +kernel
theorem dX0_readHeap_10 : decode cX0_readHeap 10 = .ok (.istore_n 3, 1) := by decide +kernel
theorem dX0_readHeap_11 : decode cX0_readHeap 11 = .ok (.aload_n 1, 1) := by decide +kernel
theorem dX0_readHeap_12 : decode cX0_readHeap 12 = .ok (.getfield 118, 3) := by decide +kernel
theorem dX0_readHeap_15 : decode cX0_readHeap 15 = .ok (.iload_n 3, 1) := by decide +kernel
theorem dX0_readHeap_16 : decode cX0_readHeap 16 = .ok (.aload_n 0, 1) := by decide +kernel
theorem dX0_readHeap_17 : decode cX0_readHeap 17 = .ok (.getfield 21, 3) := by decide +kernel
theorem dX0_readHeap_20 : decode cX0_readHeap 20 = .ok (.iconst 0, 1) := by decide +kernel
theorem dX0_readHeap_21 : decode cX0_readHeap 21 = .ok (.sipush 9999, 3) := by decide +kernel
theorem dX0_readHeap_24 : decode cX0_readHeap 24 = .ok (.invokevirtual 76, 3) := by decide +kernel
theorem dX0_readHeap_27 : decode cX0_readHeap 27 = .ok (.iastore, 1) := by decide +kernel
theorem dX0_readHeap_28 : decode cX0_readHeap 28 = .ok (.return_, 1) := by decide +kernel
theorem dX0_readSpring_0 : decode cX0_readSpring 0 = .ok (.aload_n 0, 1) := by decide +kernel
theorem dX0_readSpring_1 : decode cX0_readSpring 1 = .ok (.iload_n 2, 1) := by decide +kernel
theorem dX0_readSpring_2 : decode cX0_readSpring 2 = .ok (.ifCond .ne 12, 3) := by decide +kernel
theorem dX0_readSpring_5 : decode cX0_readSpring 5 = .ok (.aload_n 1, 1) := by decide +kernel
theorem dX0_readSpring_6 : decode cX0_readSpring 6 = .ok (.getfield 121, 3) := by decide +kernel
theorem dX0_readSpring_9 : decode cX0_readSpring 9 = .ok (.bipush 8, 2) := by decide +kernel
theorem dX0_readSpring_11 : decode cX0_readSpring 11 = .ok (.if_icmp .ne 7, 3) := by decide +kernel
theorem dX0_readSpring_14 : decode cX0_readSpring 14 = .ok (.iconst 1, 1) := by decide +kernel
theorem dX0_readSpring_15 : decode cX0_readSpring 15 = .ok (.goto 4, 3) := by decide +kernel
theorem dX0_readSpring_18 : decode cX0_readSpring 18 = .ok (.iconst 0, 1) := by decide +kernel
theorem dX0_readSpring_19 : decode cX0_readSpring 19 = .ok (.invokevirtual 70, 3) := by decide +kernel
theorem dX0_readSpring_22 : decode cX0_readSpring 22 = .ok (.aload_n 0, 1) := by decide +kernel
theorem dX0_readSpring_23 : decode cX0_readSpring 23 = .ok (.aload_n 1, 1) := by decide +kernel
theorem dX0_readSpring_24 : decode cX0_readSpring 24 = .ok (.invokevirtual 114, 3) := by decide +kernel
theorem dX0_readSpring_27 : decode cX0_readSpring 27 = .ok (.istore_n 3, 1) := by decide +kernel
theorem dX0_readSpring_28 : decode cX0_readSpring 28 = .ok (.aload_n 1, 1) := by decide +kernel
theorem dX0_readSpring_29 : decode cX0_readSpring 29 = .ok (.iload_n 3, 1) := by decide +kernel
theorem dX0_readSpring_30 : decode cX0_readSpring 30 = .ok (.aload_n 0, 1) := by decide +kernel
theorem dX0_readSpring_31 : decode cX0_readSpring 31 = .ok (.getfield 21, 3) := by decide +kernel
theorem dX0_readSpring_34 : decode cX0_readSpring 34 = .ok (.iconst 1, 1) := by decide +kernel
theorem dX0_readSpring_35 : decode cX0_readSpring 35 = .ok (.sipush 999, 3) := by decide +kernel
theorem dX0_readSpring_38 : decode cX0_readSpring 38 = .ok (.invokevirtual 76, 3) := by decide +kernel
theorem dX0_readSpring_41 : decode cX0_readSpring 41 = .ok (.invokevirtual 124, 3) := by decide +kernel
