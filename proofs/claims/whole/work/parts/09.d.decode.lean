theorem d_X6_does_0 : decode m_X6_does.2.1 0 = .ok (.iload_n 1, 1) := by decide +kernel
theorem d_X6_does_1 : decode m_X6_does.2.1 1 = .ok (.bipush 14, 2) := by decide +kernel
theorem d_X6_does_3 : decode m_X6_does.2.1 3 = .ok (.if_icmp .ne 9, 3) := by decide +kernel
theorem d_X6_does_6 : decode m_X6_does.2.1 6 = .ok (.aload_n 0, 1) := by decide +kernel
theorem d_X6_does_7 : decode m_X6_does.2.1 7 = .ok (.invokevirtual 164, 3) := by decide +kernel
theorem d_X6_does_10 : decode m_X6_does.2.1 10 = .ok (.iconst 1, 1) := by decide +kernel
theorem d_X6_does_11 : decode m_X6_does.2.1 11 = .ok (.ireturn, 1) := by decide +kernel
theorem d_X6_does_12 : decode m_X6_does.2.1 12 = .ok (.iload_n 1, 1) := by decide +kernel
theorem d_X6_does_13 : decode m_X6_does.2.1 13 = .ok (.bipush 10, 2) := by decide +kernel
theorem d_X6_does_15 : decode m_X6_does.2.1 15 = .ok (.if_icmp .lt 43, 3) := by decide +kernel
theorem d_X6_does_18 : decode m_X6_does.2.1 18 = .ok (.iload_n 1, 1) := by decide +kernel
theorem d_X6_does_19 : decode m_X6_does.2.1 19 = .ok (.bipush 10, 2) := by decide +kernel
theorem d_X6_does_21 : decode m_X6_does.2.1 21 = .ok (.isub, 1) := by decide +kernel
theorem d_X6_does_22 : decode m_X6_does.2.1 22 = .ok (.istore_n 2, 1) := by decide +kernel
theorem d_X6_does_23 : decode m_X6_does.2.1 23 = .ok (.aload_n 0, 1) := by decide +kernel
theorem d_X6_does_24 : decode m_X6_does.2.1 24 = .ok (.iload_n 2, 1) := by decide +kernel
theorem d_X6_does_25 : decode m_X6_does.2.1 25 = .ok (.invokevirtual 148, 3) := by decide +kernel
theorem d_X6_does_28 : decode m_X6_does.2.1 28 = .ok (.ifCond .eq 14, 3) := by decide +kernel
theorem d_X6_does_31 : decode m_X6_does.2.1 31 = .ok (.aload_n 0, 1) := by decide +kernel
theorem d_X6_does_32 : decode m_X6_does.2.1 32 = .ok (.getfield 107, 3) := by decide +kernel
theorem d_X6_does_35 : decode m_X6_does.2.1 35 = .ok (.iload_n 2, 1) := by decide +kernel
theorem d_X6_does_36 : decode m_X6_does.2.1 36 = .ok (.invokestatic 136, 3) := by decide +kernel
theorem d_X6_does_39 : decode m_X6_does.2.1 39 = .ok (.ifCond .eq 5, 3) := by decide +kernel
theorem d_X6_does_42 : decode m_X6_does.2.1 42 = .ok (.iconst 0, 1) := by decide +kernel
theorem d_X6_does_43 : decode m_X6_does.2.1 43 = .ok (.ireturn, 1) := by decide +kernel
theorem d_X6_does_44 : decode m_X6_does.2.1 44 = .ok (.aload_n 0, 1) := by decide +kernel
theorem d_X6_does_45 : decode m_X6_does.2.1 45 = .ok (.dup, 1) := by decide +kernel
theorem d_X6_does_46 : decode m_X6_does.2.1 46 = .ok (.getfield 107, 3) := by decide +kernel
theorem d_X6_does_49 : decode m_X6_does.2.1 49 = .ok (.iconst 1, 1) := by decide +kernel
theorem d_X6_does_50 : decode m_X6_does.2.1 50 = .ok (.iload_n 2, 1) := by decide +kernel
theorem d_X6_does_51 : decode m_X6_does.2.1 51 = .ok (.ishl, 1) := by decide +kernel
theorem d_X6_does_52 : decode m_X6_does.2.1 52 = .ok (.ior, 1) := by decide +kernel
theorem d_X6_does_53 : decode m_X6_does.2.1 53 = .ok (.putfield 107, 3) := by decide +kernel
theorem d_X6_does_56 : decode m_X6_does.2.1 56 = .ok (.iconst 1, 1) := by decide +kernel
theorem d_X6_does_57 : decode m_X6_does.2.1 57 = .ok (.ireturn, 1) := by decide +kernel
theorem d_X6_does_58 : decode m_X6_does.2.1 58 = .ok (.iload_n 1, 1) := by decide +kernel
theorem d_X6_does_59 : decode m_X6_does.2.1 59 = .ok (.iconst 5, 1) := by decide +kernel
theorem d_X6_does_60 : decode m_X6_does.2.1 60 = .ok (.if_icmp .ge 7, 3) := by decide +kernel
theorem d_X6_does_63 : decode m_X6_does.2.1 63 = .ok (.iload_n 1, 1) := by decide +kernel
theorem d_X6_does_64 : decode m_X6_does.2.1 64 = .ok (.goto 6, 3) := by decide +kernel
theorem d_X6_does_67 : decode m_X6_does.2.1 67 = .ok (.iload_n 1, 1) := by decide +kernel
theorem d_X6_does_68 : decode m_X6_does.2.1 68 = .ok (.iconst 5, 1) := by decide +kernel
theorem d_X6_does_69 : decode m_X6_does.2.1 69 = .ok (.isub, 1) := by decide +kernel
theorem d_X6_does_70 : decode m_X6_does.2.1 70 = .ok (.istore_n 2, 1) := by decide +kernel
theorem d_X6_does_71 : decode m_X6_does.2.1 71 = .ok (.aload_n 0, 1) := by decide +kernel
theorem d_X6_does_72 : decode m_X6_does.2.1 72 = .ok (.iload_n 2, 1) := by decide +kernel
theorem d_X6_does_73 : decode m_X6_does.2.1 73 = .ok (.invokevirtual 145, 3) := by decide +kernel
theorem d_X6_does_76 : decode m_X6_does.2.1 76 = .ok (.ifCond .ne 5, 3) := by decide +kernel
theorem d_X6_does_79 : decode m_X6_does.2.1 79 = .ok (.iconst 0, 1) := by decide +kernel
theorem d_X6_does_80 : decode m_X6_does.2.1 80 = .ok (.ireturn, 1) := by decide +kernel
theorem d_X6_does_81 : decode m_X6_does.2.1 81 = .ok (.iload_n 1, 1) := by decide +kernel
theorem d_X6_does_82 : decode m_X6_does.2.1 82 = .ok (.iconst 5, 1) := by decide +kernel
theorem d_X6_does_83 : decode m_X6_does.2.1 83 = .ok (.if_icmp .ge 12, 3) := by decide +kernel
theorem d_X6_does_86 : decode m_X6_does.2.1 86 = .ok (.aload_n 0, 1) := by decide +kernel
theorem d_X6_does_87 : decode m_X6_does.2.1 87 = .ok (.iload_n 2, 1) := by decide +kernel
theorem d_X6_does_88 : decode m_X6_does.2.1 88 = .ok (.invokevirtual 155, 3) := by decide +kernel
theorem d_X6_does_91 : decode m_X6_does.2.1 91 = .ok (.pop, 1) := by decide +kernel
theorem d_X6_does_92 : decode m_X6_does.2.1 92 = .ok (.goto 11, 3) := by decide +kernel
theorem d_X6_does_95 : decode m_X6_does.2.1 95 = .ok (.aload_n 0, 1) := by decide +kernel
theorem d_X6_does_96 : decode m_X6_does.2.1 96 = .ok (.getfield 25, 3) := by decide +kernel
theorem d_X6_does_99 : decode m_X6_does.2.1 99 = .ok (.iload_n 2, 1) := by decide +kernel
theorem d_X6_does_100 : decode m_X6_does.2.1 100 = .ok (.bipush 9, 2) := by decide +kernel
theorem d_X6_does_102 : decode m_X6_does.2.1 102 = .ok (.iastore, 1) := by decide +kernel
theorem d_X6_does_103 : decode m_X6_does.2.1 103 = .ok (.iconst 1, 1) := by decide +kernel
theorem d_X6_does_104 : decode m_X6_does.2.1 104 = .ok (.ireturn, 1) := by decide +kernel
theorem d_X6_goDay_0 : decode m_X6_goDay.2.1 0 = .ok (.iconst 0, 1) := by decide +kernel
theorem d_X6_goDay_1 : decode m_X6_goDay.2.1 1 = .ok (.istore_n 3, 1) := by decide +kernel
theorem d_X6_goDay_2 : decode m_X6_goDay.2.1 2 = .ok (.iload_n 3, 1) := by decide +kernel
theorem d_X6_goDay_3 : decode m_X6_goDay.2.1 3 = .ok (.iload_n 2, 1) := by decide +kernel
theorem d_X6_goDay_4 : decode m_X6_goDay.2.1 4 = .ok (.if_icmp .ge 26, 3) := by decide +kernel
theorem d_X6_goDay_7 : decode m_X6_goDay.2.1 7 = .ok (.aload_n 0, 1) := by decide +kernel
theorem d_X6_goDay_8 : decode m_X6_goDay.2.1 8 = .ok (.aload_n 0, 1) := by decide +kernel
theorem d_X6_goDay_9 : decode m_X6_goDay.2.1 9 = .ok (.getfield 16, 3) := by decide +kernel
theorem d_X6_goDay_12 : decode m_X6_goDay.2.1 12 = .ok (.iload_n 1, 1) := by decide +kernel
theorem d_X6_goDay_13 : decode m_X6_goDay.2.1 13 = .ok (.iload_n 3, 1) := by decide +kernel
theorem d_X6_goDay_14 : decode m_X6_goDay.2.1 14 = .ok (.iadd, 1) := by decide +kernel
theorem d_X6_goDay_15 : decode m_X6_goDay.2.1 15 = .ok (.iaload, 1) := by decide +kernel
theorem d_X6_goDay_16 : decode m_X6_goDay.2.1 16 = .ok (.invokevirtual 167, 3) := by decide +kernel
theorem d_X6_goDay_19 : decode m_X6_goDay.2.1 19 = .ok (.ifCond .ne 5, 3) := by decide +kernel
theorem d_X6_goDay_22 : decode m_X6_goDay.2.1 22 = .ok (.iload_n 3, 1) := by decide +kernel
theorem d_X6_goDay_23 : decode m_X6_goDay.2.1 23 = .ok (.ireturn, 1) := by decide +kernel
theorem d_X6_goDay_24 : decode m_X6_goDay.2.1 24 = .ok (.iinc 3 1, 3) := by decide +kernel
theorem d_X6_goDay_27 : decode m_X6_goDay.2.1 27 = .ok (.goto (-25), 3) := by decide +kernel
theorem d_X6_goDay_30 : decode m_X6_goDay.2.1 30 = .ok (.bipush (-9), 2) := by decide +kernel
theorem d_X6_goDay_32 : decode m_X6_goDay.2.1 32 = .ok (.ireturn, 1) := by decide +kernel
theorem d_X6_day_0 : decode m_X6_day.2.1 0 = .ok (.aload_n 0, 1) := by decide +kernel
theorem d_X6_day_1 : decode m_X6_day.2.1 1 = .ok (.iconst 0, 1) := by decide +kernel
theorem d_X6_day_2 : decode m_X6_day.2.1 2 = .ok (.putfield 52, 3) := by decide +kernel
theorem d_X6_day_5 : decode m_X6_day.2.1 5 = .ok (.iload_n 1, 1) := by decide +kernel
theorem d_X6_day_6 : decode m_X6_day.2.1 6 = .ok (.invokestatic 71, 3) := by decide +kernel
theorem d_X6_day_9 : decode m_X6_day.2.1 9 = .ok (.ifCond .ne 5, 3) := by decide +kernel
theorem d_X6_day_12 : decode m_X6_day.2.1 12 = .ok (.iconst (-1), 1) := by decide +kernel
theorem d_X6_day_13 : decode m_X6_day.2.1 13 = .ok (.ireturn, 1) := by decide +kernel
theorem d_X6_day_14 : decode m_X6_day.2.1 14 = .ok (.iload_n 2, 1) := by decide +kernel
theorem d_X6_day_15 : decode m_X6_day.2.1 15 = .ok (.invokestatic 75, 3) := by decide +kernel
theorem d_X6_day_18 : decode m_X6_day.2.1 18 = .ok (.ifCond .eq 36, 3) := by decide +kernel
theorem d_X6_day_21 : decode m_X6_day.2.1 21 = .ok (.iload 4, 2) := by decide +kernel
theorem d_X6_day_23 : decode m_X6_day.2.1 23 = .ok (.iconst 0, 1) := by decide +kernel
theorem d_X6_day_24 : decode m_X6_day.2.1 24 = .ok (.bipush 20, 2) := by decide +kernel
theorem d_X6_day_26 : decode m_X6_day.2.1 26 = .ok (.invokestatic 58, 3) := by decide +kernel
theorem d_X6_day_29 : decode m_X6_day.2.1 29 = .ok (.ifCond .eq 25, 3) := by decide +kernel
theorem d_X6_day_32 : decode m_X6_day.2.1 32 = .ok (.iload 5, 2) := by decide +kernel
theorem d_X6_day_34 : decode m_X6_day.2.1 34 = .ok (.iconst 0, 1) := by decide +kernel
theorem d_X6_day_35 : decode m_X6_day.2.1 35 = .ok (.iconst 4, 1) := by decide +kernel
theorem d_X6_day_36 : decode m_X6_day.2.1 36 = .ok (.invokestatic 58, 3) := by decide +kernel
theorem d_X6_day_39 : decode m_X6_day.2.1 39 = .ok (.ifCond .ne 18, 3) := by decide +kernel
theorem d_X6_day_42 : decode m_X6_day.2.1 42 = .ok (.iload 5, 2) := by decide +kernel
theorem d_X6_day_44 : decode m_X6_day.2.1 44 = .ok (.bipush 10, 2) := by decide +kernel
theorem d_X6_day_46 : decode m_X6_day.2.1 46 = .ok (.bipush 14, 2) := by decide +kernel
theorem d_X6_day_48 : decode m_X6_day.2.1 48 = .ok (.invokestatic 58, 3) := by decide +kernel
theorem d_X6_day_51 : decode m_X6_day.2.1 51 = .ok (.ifCond .ne 6, 3) := by decide +kernel
theorem d_X6_day_54 : decode m_X6_day.2.1 54 = .ok (.bipush (-2), 2) := by decide +kernel
theorem d_X6_day_56 : decode m_X6_day.2.1 56 = .ok (.ireturn, 1) := by decide +kernel
theorem d_X6_day_57 : decode m_X6_day.2.1 57 = .ok (.aload_n 0, 1) := by decide +kernel
theorem d_X6_day_58 : decode m_X6_day.2.1 58 = .ok (.iload_n 1, 1) := by decide +kernel
theorem d_X6_day_59 : decode m_X6_day.2.1 59 = .ok (.iload_n 2, 1) := by decide +kernel
theorem d_X6_day_60 : decode m_X6_day.2.1 60 = .ok (.iload_n 3, 1) := by decide +kernel
theorem d_X6_day_61 : decode m_X6_day.2.1 61 = .ok (.iload 4, 2) := by decide +kernel
theorem d_X6_day_63 : decode m_X6_day.2.1 63 = .ok (.invokevirtual 78, 3) := by decide +kernel
theorem d_X6_day_66 : decode m_X6_day.2.1 66 = .ok (.istore 6, 2) := by decide +kernel
theorem d_X6_day_68 : decode m_X6_day.2.1 68 = .ok (.iload 6, 2) := by decide +kernel
theorem d_X6_day_70 : decode m_X6_day.2.1 70 = .ok (.ifCond .eq 10, 3) := by decide +kernel
theorem d_X6_day_73 : decode m_X6_day.2.1 73 = .ok (.aload_n 0, 1) := by decide +kernel
theorem d_X6_day_74 : decode m_X6_day.2.1 74 = .ok (.iload 6, 2) := by decide +kernel
theorem d_X6_day_76 : decode m_X6_day.2.1 76 = .ok (.invokevirtual 82, 3) := by decide +kernel
theorem d_X6_day_79 : decode m_X6_day.2.1 79 = .ok (.ireturn, 1) := by decide +kernel
theorem d_X6_day_80 : decode m_X6_day.2.1 80 = .ok (.aload_n 0, 1) := by decide +kernel
theorem d_X6_day_81 : decode m_X6_day.2.1 81 = .ok (.getfield 62, 3) := by decide +kernel
theorem d_X6_day_84 : decode m_X6_day.2.1 84 = .ok (.ifCond .ne 6, 3) := by decide +kernel
theorem d_X6_day_87 : decode m_X6_day.2.1 87 = .ok (.bipush (-3), 2) := by decide +kernel
theorem d_X6_day_89 : decode m_X6_day.2.1 89 = .ok (.ireturn, 1) := by decide +kernel
theorem d_X6_day_90 : decode m_X6_day.2.1 90 = .ok (.bipush 60, 2) := by decide +kernel
theorem d_X6_day_92 : decode m_X6_day.2.1 92 = .ok (.iload_n 1, 1) := by decide +kernel
theorem d_X6_day_93 : decode m_X6_day.2.1 93 = .ok (.imul, 1) := by decide +kernel
theorem d_X6_day_94 : decode m_X6_day.2.1 94 = .ok (.iload_n 3, 1) := by decide +kernel
theorem d_X6_day_95 : decode m_X6_day.2.1 95 = .ok (.iadd, 1) := by decide +kernel
theorem d_X6_day_96 : decode m_X6_day.2.1 96 = .ok (.istore 7, 2) := by decide +kernel
theorem d_X6_day_98 : decode m_X6_day.2.1 98 = .ok (.iconst 0, 1) := by decide +kernel
theorem d_X6_day_99 : decode m_X6_day.2.1 99 = .ok (.istore 8, 2) := by decide +kernel
theorem d_X6_day_101 : decode m_X6_day.2.1 101 = .ok (.iload 8, 2) := by decide +kernel
theorem d_X6_day_103 : decode m_X6_day.2.1 103 = .ok (.iload 4, 2) := by decide +kernel
theorem d_X6_day_105 : decode m_X6_day.2.1 105 = .ok (.if_icmp .ge 31, 3) := by decide +kernel
theorem d_X6_day_108 : decode m_X6_day.2.1 108 = .ok (.aload_n 0, 1) := by decide +kernel
theorem d_X6_day_109 : decode m_X6_day.2.1 109 = .ok (.getfield 16, 3) := by decide +kernel
theorem d_X6_day_112 : decode m_X6_day.2.1 112 = .ok (.iload 7, 2) := by decide +kernel
theorem d_X6_day_114 : decode m_X6_day.2.1 114 = .ok (.iload 8, 2) := by decide +kernel
theorem d_X6_day_116 : decode m_X6_day.2.1 116 = .ok (.iadd, 1) := by decide +kernel
theorem d_X6_day_117 : decode m_X6_day.2.1 117 = .ok (.iaload, 1) := by decide +kernel
theorem d_X6_day_118 : decode m_X6_day.2.1 118 = .ok (.iconst 0, 1) := by decide +kernel
theorem d_X6_day_119 : decode m_X6_day.2.1 119 = .ok (.bipush 14, 2) := by decide +kernel
theorem d_X6_day_121 : decode m_X6_day.2.1 121 = .ok (.invokestatic 58, 3) := by decide +kernel
theorem d_X6_day_124 : decode m_X6_day.2.1 124 = .ok (.ifCond .ne 6, 3) := by decide +kernel
theorem d_X6_day_127 : decode m_X6_day.2.1 127 = .ok (.bipush (-2), 2) := by decide +kernel
theorem d_X6_day_129 : decode m_X6_day.2.1 129 = .ok (.ireturn, 1) := by decide +kernel
theorem d_X6_day_130 : decode m_X6_day.2.1 130 = .ok (.iinc 8 1, 3) := by decide +kernel
theorem d_X6_day_133 : decode m_X6_day.2.1 133 = .ok (.goto (-32), 3) := by decide +kernel
theorem d_X6_day_136 : decode m_X6_day.2.1 136 = .ok (.aload_n 0, 1) := by decide +kernel
theorem d_X6_day_137 : decode m_X6_day.2.1 137 = .ok (.iconst 0, 1) := by decide +kernel
theorem d_X6_day_138 : decode m_X6_day.2.1 138 = .ok (.invokevirtual 170, 3) := by decide +kernel
theorem d_X6_day_141 : decode m_X6_day.2.1 141 = .ok (.aload_n 0, 1) := by decide +kernel
theorem d_X6_day_142 : decode m_X6_day.2.1 142 = .ok (.getfield 116, 3) := by decide +kernel
theorem d_X6_day_145 : decode m_X6_day.2.1 145 = .ok (.istore 8, 2) := by decide +kernel
theorem d_X6_day_147 : decode m_X6_day.2.1 147 = .ok (.aload_n 0, 1) := by decide +kernel
theorem d_X6_day_148 : decode m_X6_day.2.1 148 = .ok (.iload 7, 2) := by decide +kernel
theorem d_X6_day_150 : decode m_X6_day.2.1 150 = .ok (.iload 4, 2) := by decide +kernel
theorem d_X6_day_152 : decode m_X6_day.2.1 152 = .ok (.invokevirtual 174, 3) := by decide +kernel
theorem d_X6_day_155 : decode m_X6_day.2.1 155 = .ok (.istore 9, 2) := by decide +kernel
theorem d_X6_day_157 : decode m_X6_day.2.1 157 = .ok (.aload_n 0, 1) := by decide +kernel
theorem d_X6_day_158 : decode m_X6_day.2.1 158 = .ok (.iload 5, 2) := by decide +kernel
theorem d_X6_day_160 : decode m_X6_day.2.1 160 = .ok (.iload 8, 2) := by decide +kernel
theorem d_X6_day_162 : decode m_X6_day.2.1 162 = .ok (.invokevirtual 178, 3) := by decide +kernel
theorem d_X6_day_165 : decode m_X6_day.2.1 165 = .ok (.istore 10, 2) := by decide +kernel
theorem d_X6_day_167 : decode m_X6_day.2.1 167 = .ok (.aload_n 0, 1) := by decide +kernel
theorem d_X6_day_168 : decode m_X6_day.2.1 168 = .ok (.iconst 0, 1) := by decide +kernel
theorem d_X6_day_169 : decode m_X6_day.2.1 169 = .ok (.invokevirtual 181, 3) := by decide +kernel
theorem d_X6_day_172 : decode m_X6_day.2.1 172 = .ok (.iload 5, 2) := by decide +kernel
theorem d_X6_day_174 : decode m_X6_day.2.1 174 = .ok (.iconst 1, 1) := by decide +kernel
theorem d_X6_day_175 : decode m_X6_day.2.1 175 = .ok (.if_icmp .ne 8, 3) := by decide +kernel
theorem d_X6_day_178 : decode m_X6_day.2.1 178 = .ok (.iload 9, 2) := by decide +kernel
theorem d_X6_day_180 : decode m_X6_day.2.1 180 = .ok (.goto 20, 3) := by decide +kernel
theorem d_X6_day_183 : decode m_X6_day.2.1 183 = .ok (.iload 9, 2) := by decide +kernel
theorem d_X6_day_185 : decode m_X6_day.2.1 185 = .ok (.bipush (-9), 2) := by decide +kernel
theorem d_X6_day_187 : decode m_X6_day.2.1 187 = .ok (.if_icmp .ne 8, 3) := by decide +kernel
theorem d_X6_day_190 : decode m_X6_day.2.1 190 = .ok (.iload 10, 2) := by decide +kernel
theorem d_X6_day_192 : decode m_X6_day.2.1 192 = .ok (.goto 8, 3) := by decide +kernel
theorem d_X6_day_195 : decode m_X6_day.2.1 195 = .ok (.bipush (-100), 2) := by decide +kernel
theorem d_X6_day_197 : decode m_X6_day.2.1 197 = .ok (.iload 9, 2) := by decide +kernel
theorem d_X6_day_199 : decode m_X6_day.2.1 199 = .ok (.isub, 1) := by decide +kernel
theorem d_X6_day_200 : decode m_X6_day.2.1 200 = .ok (.ireturn, 1) := by decide +kernel
theorem d_X6_tellDay_0 : decode m_X6_tellDay.2.1 0 = .ok (.iload_n 1, 1) := by decide +kernel
theorem d_X6_tellDay_1 : decode m_X6_tellDay.2.1 1 = .ok (.bipush 10, 2) := by decide +kernel
theorem d_X6_tellDay_3 : decode m_X6_tellDay.2.1 3 = .ok (.if_icmp .lt 29, 3) := by decide +kernel
theorem d_X6_tellDay_6 : decode m_X6_tellDay.2.1 6 = .ok (.aload_n 0, 1) := by decide +kernel
theorem d_X6_tellDay_7 : decode m_X6_tellDay.2.1 7 = .ok (.iload_n 1, 1) := by decide +kernel
theorem d_X6_tellDay_8 : decode m_X6_tellDay.2.1 8 = .ok (.bipush 10, 2) := by decide +kernel
theorem d_X6_tellDay_10 : decode m_X6_tellDay.2.1 10 = .ok (.isub, 1) := by decide +kernel
theorem d_X6_tellDay_11 : decode m_X6_tellDay.2.1 11 = .ok (.invokevirtual 145, 3) := by decide +kernel
theorem d_X6_tellDay_14 : decode m_X6_tellDay.2.1 14 = .ok (.ifCond .eq 15, 3) := by decide +kernel
theorem d_X6_tellDay_17 : decode m_X6_tellDay.2.1 17 = .ok (.aload_n 0, 1) := by decide +kernel
theorem d_X6_tellDay_18 : decode m_X6_tellDay.2.1 18 = .ok (.getfield 25, 3) := by decide +kernel
theorem d_X6_tellDay_21 : decode m_X6_tellDay.2.1 21 = .ok (.iload_n 1, 1) := by decide +kernel
theorem d_X6_tellDay_22 : decode m_X6_tellDay.2.1 22 = .ok (.bipush 10, 2) := by decide +kernel
theorem d_X6_tellDay_24 : decode m_X6_tellDay.2.1 24 = .ok (.isub, 1) := by decide +kernel
theorem d_X6_tellDay_25 : decode m_X6_tellDay.2.1 25 = .ok (.iaload, 1) := by decide +kernel
theorem d_X6_tellDay_26 : decode m_X6_tellDay.2.1 26 = .ok (.goto 5, 3) := by decide +kernel
theorem d_X6_tellDay_29 : decode m_X6_tellDay.2.1 29 = .ok (.bipush (-9), 2) := by decide +kernel
theorem d_X6_tellDay_31 : decode m_X6_tellDay.2.1 31 = .ok (.ireturn, 1) := by decide +kernel
theorem d_X6_tellDay_32 : decode m_X6_tellDay.2.1 32 = .ok (.iload_n 1, 1) := by decide +kernel
theorem d_X6_tellDay_33 : decode m_X6_tellDay.2.1 33 = .ok (.tableswitch 48 0 3 #[31, 48, 36, 43], 31) := by decide +kernel
theorem d_X6_tellDay_64 : decode m_X6_tellDay.2.1 64 = .ok (.aload_n 0, 1) := by decide +kernel
theorem d_X6_tellDay_65 : decode m_X6_tellDay.2.1 65 = .ok (.invokevirtual 151, 3) := by decide +kernel
theorem d_X6_tellDay_68 : decode m_X6_tellDay.2.1 68 = .ok (.ireturn, 1) := by decide +kernel
theorem d_X6_tellDay_69 : decode m_X6_tellDay.2.1 69 = .ok (.aload_n 0, 1) := by decide +kernel
theorem d_X6_tellDay_70 : decode m_X6_tellDay.2.1 70 = .ok (.getfield 116, 3) := by decide +kernel
theorem d_X6_tellDay_73 : decode m_X6_tellDay.2.1 73 = .ok (.iload_n 2, 1) := by decide +kernel
theorem d_X6_tellDay_74 : decode m_X6_tellDay.2.1 74 = .ok (.isub, 1) := by decide +kernel
theorem d_X6_tellDay_75 : decode m_X6_tellDay.2.1 75 = .ok (.ireturn, 1) := by decide +kernel
theorem d_X6_tellDay_76 : decode m_X6_tellDay.2.1 76 = .ok (.aload_n 0, 1) := by decide +kernel
theorem d_X6_tellDay_77 : decode m_X6_tellDay.2.1 77 = .ok (.invokevirtual 158, 3) := by decide +kernel
theorem d_X6_tellDay_80 : decode m_X6_tellDay.2.1 80 = .ok (.ireturn, 1) := by decide +kernel
theorem d_X6_tellDay_81 : decode m_X6_tellDay.2.1 81 = .ok (.aload_n 0, 1) := by decide +kernel
theorem d_X6_tellDay_82 : decode m_X6_tellDay.2.1 82 = .ok (.getfield 110, 3) := by decide +kernel
theorem d_X6_tellDay_85 : decode m_X6_tellDay.2.1 85 = .ok (.ireturn, 1) := by decide +kernel
theorem d_X6_behind_0 : decode m_X6_behind.2.1 0 = .ok (.iload_n 1, 1) := by decide +kernel
theorem d_X6_behind_1 : decode m_X6_behind.2.1 1 = .ok (.iconst 0, 1) := by decide +kernel
theorem d_X6_behind_2 : decode m_X6_behind.2.1 2 = .ok (.bipush 60, 2) := by decide +kernel
theorem d_X6_behind_4 : decode m_X6_behind.2.1 4 = .ok (.invokestatic 58, 3) := by decide +kernel
theorem d_X6_behind_7 : decode m_X6_behind.2.1 7 = .ok (.ifCond .eq 12, 3) := by decide +kernel
theorem d_X6_behind_10 : decode m_X6_behind.2.1 10 = .ok (.iload_n 2, 1) := by decide +kernel
theorem d_X6_behind_11 : decode m_X6_behind.2.1 11 = .ok (.iconst 0, 1) := by decide +kernel
theorem d_X6_behind_12 : decode m_X6_behind.2.1 12 = .ok (.iconst 2, 1) := by decide +kernel
theorem d_X6_behind_13 : decode m_X6_behind.2.1 13 = .ok (.invokestatic 58, 3) := by decide +kernel
theorem d_X6_behind_16 : decode m_X6_behind.2.1 16 = .ok (.ifCond .ne 6, 3) := by decide +kernel
theorem d_X6_behind_19 : decode m_X6_behind.2.1 19 = .ok (.bipush (-2), 2) := by decide +kernel
theorem d_X6_behind_21 : decode m_X6_behind.2.1 21 = .ok (.ireturn, 1) := by decide +kernel
theorem d_X6_behind_22 : decode m_X6_behind.2.1 22 = .ok (.aload_n 0, 1) := by decide +kernel
theorem d_X6_behind_23 : decode m_X6_behind.2.1 23 = .ok (.getfield 62, 3) := by decide +kernel
theorem d_X6_behind_26 : decode m_X6_behind.2.1 26 = .ok (.ifCond .ne 6, 3) := by decide +kernel
theorem d_X6_behind_29 : decode m_X6_behind.2.1 29 = .ok (.bipush (-3), 2) := by decide +kernel
theorem d_X6_behind_31 : decode m_X6_behind.2.1 31 = .ok (.ireturn, 1) := by decide +kernel
theorem d_X6_behind_32 : decode m_X6_behind.2.1 32 = .ok (.aload_n 0, 1) := by decide +kernel
theorem d_X6_behind_33 : decode m_X6_behind.2.1 33 = .ok (.iconst 0, 1) := by decide +kernel
theorem d_X6_behind_34 : decode m_X6_behind.2.1 34 = .ok (.invokevirtual 170, 3) := by decide +kernel
theorem d_X6_behind_37 : decode m_X6_behind.2.1 37 = .ok (.aload_n 0, 1) := by decide +kernel
theorem d_X6_behind_38 : decode m_X6_behind.2.1 38 = .ok (.getfield 116, 3) := by decide +kernel
theorem d_X6_behind_41 : decode m_X6_behind.2.1 41 = .ok (.istore_n 3, 1) := by decide +kernel
theorem d_X6_behind_42 : decode m_X6_behind.2.1 42 = .ok (.iconst 0, 1) := by decide +kernel
theorem d_X6_behind_43 : decode m_X6_behind.2.1 43 = .ok (.istore 4, 2) := by decide +kernel
theorem d_X6_behind_45 : decode m_X6_behind.2.1 45 = .ok (.iload 4, 2) := by decide +kernel
theorem d_X6_behind_47 : decode m_X6_behind.2.1 47 = .ok (.iload_n 1, 1) := by decide +kernel
theorem d_X6_behind_48 : decode m_X6_behind.2.1 48 = .ok (.if_icmp .ge 13, 3) := by decide +kernel
theorem d_X6_behind_51 : decode m_X6_behind.2.1 51 = .ok (.aload_n 0, 1) := by decide +kernel
theorem d_X6_behind_52 : decode m_X6_behind.2.1 52 = .ok (.invokevirtual 164, 3) := by decide +kernel
theorem d_X6_behind_55 : decode m_X6_behind.2.1 55 = .ok (.iinc 4 1, 3) := by decide +kernel
theorem d_X6_behind_58 : decode m_X6_behind.2.1 58 = .ok (.goto (-13), 3) := by decide +kernel
theorem d_X6_behind_61 : decode m_X6_behind.2.1 61 = .ok (.iload_n 2, 1) := by decide +kernel
theorem d_X6_behind_62 : decode m_X6_behind.2.1 62 = .ok (.ifCond .ne 10, 3) := by decide +kernel
theorem d_X6_behind_65 : decode m_X6_behind.2.1 65 = .ok (.aload_n 0, 1) := by decide +kernel
theorem d_X6_behind_66 : decode m_X6_behind.2.1 66 = .ok (.invokevirtual 151, 3) := by decide +kernel
theorem d_X6_behind_69 : decode m_X6_behind.2.1 69 = .ok (.goto 21, 3) := by decide +kernel
theorem d_X6_behind_72 : decode m_X6_behind.2.1 72 = .ok (.iload_n 2, 1) := by decide +kernel
theorem d_X6_behind_73 : decode m_X6_behind.2.1 73 = .ok (.iconst 1, 1) := by decide +kernel
theorem d_X6_behind_74 : decode m_X6_behind.2.1 74 = .ok (.if_icmp .ne 10, 3) := by decide +kernel
theorem d_X6_behind_77 : decode m_X6_behind.2.1 77 = .ok (.aload_n 0, 1) := by decide +kernel
theorem d_X6_behind_78 : decode m_X6_behind.2.1 78 = .ok (.getfield 110, 3) := by decide +kernel
theorem d_X6_behind_81 : decode m_X6_behind.2.1 81 = .ok (.goto 9, 3) := by decide +kernel
theorem d_X6_behind_84 : decode m_X6_behind.2.1 84 = .ok (.aload_n 0, 1) := by decide +kernel
theorem d_X6_behind_85 : decode m_X6_behind.2.1 85 = .ok (.getfield 116, 3) := by decide +kernel
theorem d_X6_behind_88 : decode m_X6_behind.2.1 88 = .ok (.iload_n 3, 1) := by decide +kernel
theorem d_X6_behind_89 : decode m_X6_behind.2.1 89 = .ok (.isub, 1) := by decide +kernel
theorem d_X6_behind_90 : decode m_X6_behind.2.1 90 = .ok (.istore 4, 2) := by decide +kernel
theorem d_X6_behind_92 : decode m_X6_behind.2.1 92 = .ok (.aload_n 0, 1) := by decide +kernel
theorem d_X6_behind_93 : decode m_X6_behind.2.1 93 = .ok (.iconst 0, 1) := by decide +kernel
theorem d_X6_behind_94 : decode m_X6_behind.2.1 94 = .ok (.invokevirtual 181, 3) := by decide +kernel
theorem d_X6_behind_97 : decode m_X6_behind.2.1 97 = .ok (.iload 4, 2) := by decide +kernel
theorem d_X6_behind_99 : decode m_X6_behind.2.1 99 = .ok (.ireturn, 1) := by decide +kernel
theorem d_X6_quietIn_0 : decode m_X6_quietIn.2.1 0 = .ok (.aload_n 0, 1) := by decide +kernel
theorem d_X6_quietIn_1 : decode m_X6_quietIn.2.1 1 = .ok (.iconst 1, 1) := by decide +kernel
theorem d_X6_quietIn_2 : decode m_X6_quietIn.2.1 2 = .ok (.invokevirtual 170, 3) := by decide +kernel
theorem d_X6_quietIn_5 : decode m_X6_quietIn.2.1 5 = .ok (.iconst 0, 1) := by decide +kernel
theorem d_X6_quietIn_6 : decode m_X6_quietIn.2.1 6 = .ok (.istore_n 2, 1) := by decide +kernel
theorem d_X6_quietIn_7 : decode m_X6_quietIn.2.1 7 = .ok (.aload_n 0, 1) := by decide +kernel
theorem d_X6_quietIn_8 : decode m_X6_quietIn.2.1 8 = .ok (.invokevirtual 151, 3) := by decide +kernel
theorem d_X6_quietIn_11 : decode m_X6_quietIn.2.1 11 = .ok (.ifCond .le 18, 3) := by decide +kernel
theorem d_X6_quietIn_14 : decode m_X6_quietIn.2.1 14 = .ok (.iload_n 2, 1) := by decide +kernel
theorem d_X6_quietIn_15 : decode m_X6_quietIn.2.1 15 = .ok (.iload_n 1, 1) := by decide +kernel
theorem d_X6_quietIn_16 : decode m_X6_quietIn.2.1 16 = .ok (.if_icmp .ge 13, 3) := by decide +kernel
theorem d_X6_quietIn_19 : decode m_X6_quietIn.2.1 19 = .ok (.aload_n 0, 1) := by decide +kernel
theorem d_X6_quietIn_20 : decode m_X6_quietIn.2.1 20 = .ok (.invokevirtual 164, 3) := by decide +kernel
theorem d_X6_quietIn_23 : decode m_X6_quietIn.2.1 23 = .ok (.iinc 2 1, 3) := by decide +kernel
theorem d_X6_quietIn_26 : decode m_X6_quietIn.2.1 26 = .ok (.goto (-19), 3) := by decide +kernel
theorem d_X6_quietIn_29 : decode m_X6_quietIn.2.1 29 = .ok (.aload_n 0, 1) := by decide +kernel
theorem d_X6_quietIn_30 : decode m_X6_quietIn.2.1 30 = .ok (.invokevirtual 151, 3) := by decide +kernel
theorem d_X6_quietIn_33 : decode m_X6_quietIn.2.1 33 = .ok (.ifCond .ne 7, 3) := by decide +kernel
theorem d_X6_quietIn_36 : decode m_X6_quietIn.2.1 36 = .ok (.iload_n 2, 1) := by decide +kernel
theorem d_X6_quietIn_37 : decode m_X6_quietIn.2.1 37 = .ok (.goto 5, 3) := by decide +kernel
theorem d_X6_quietIn_40 : decode m_X6_quietIn.2.1 40 = .ok (.bipush (-9), 2) := by decide +kernel
theorem d_X6_quietIn_42 : decode m_X6_quietIn.2.1 42 = .ok (.istore_n 3, 1) := by decide +kernel
theorem d_X6_quietIn_43 : decode m_X6_quietIn.2.1 43 = .ok (.aload_n 0, 1) := by decide +kernel
theorem d_X6_quietIn_44 : decode m_X6_quietIn.2.1 44 = .ok (.iconst 1, 1) := by decide +kernel
theorem d_X6_quietIn_45 : decode m_X6_quietIn.2.1 45 = .ok (.invokevirtual 181, 3) := by decide +kernel
theorem d_X6_quietIn_48 : decode m_X6_quietIn.2.1 48 = .ok (.iload_n 3, 1) := by decide +kernel
theorem d_X6_quietIn_49 : decode m_X6_quietIn.2.1 49 = .ok (.ireturn, 1) := by decide +kernel
theorem d_X6_quiet_0 : decode m_X6_quiet.2.1 0 = .ok (.aload_n 0, 1) := by decide +kernel
theorem d_X6_quiet_1 : decode m_X6_quiet.2.1 1 = .ok (.getfield 62, 3) := by decide +kernel
theorem d_X6_quiet_4 : decode m_X6_quiet.2.1 4 = .ok (.ifCond .ne 8, 3) := by decide +kernel
theorem d_X6_quiet_7 : decode m_X6_quiet.2.1 7 = .ok (.bipush (-3), 2) := by decide +kernel
theorem d_X6_quiet_9 : decode m_X6_quiet.2.1 9 = .ok (.goto 9, 3) := by decide +kernel
theorem d_X6_quiet_12 : decode m_X6_quiet.2.1 12 = .ok (.aload_n 0, 1) := by decide +kernel
theorem d_X6_quiet_13 : decode m_X6_quiet.2.1 13 = .ok (.bipush 60, 2) := by decide +kernel
theorem d_X6_quiet_15 : decode m_X6_quiet.2.1 15 = .ok (.invokevirtual 184, 3) := by decide +kernel
theorem d_X6_quiet_18 : decode m_X6_quiet.2.1 18 = .ok (.ireturn, 1) := by decide +kernel
theorem d_X6_fewest_0 : decode m_X6_fewest.2.1 0 = .ok (.iload_n 1, 1) := by decide +kernel
theorem d_X6_fewest_1 : decode m_X6_fewest.2.1 1 = .ok (.iconst 0, 1) := by decide +kernel
theorem d_X6_fewest_2 : decode m_X6_fewest.2.1 2 = .ok (.bipush 60, 2) := by decide +kernel
theorem d_X6_fewest_4 : decode m_X6_fewest.2.1 4 = .ok (.invokestatic 58, 3) := by decide +kernel
theorem d_X6_fewest_7 : decode m_X6_fewest.2.1 7 = .ok (.ifCond .eq 12, 3) := by decide +kernel
theorem d_X6_fewest_10 : decode m_X6_fewest.2.1 10 = .ok (.iload_n 2, 1) := by decide +kernel
theorem d_X6_fewest_11 : decode m_X6_fewest.2.1 11 = .ok (.iconst 0, 1) := by decide +kernel
theorem d_X6_fewest_12 : decode m_X6_fewest.2.1 12 = .ok (.iconst 1, 1) := by decide +kernel
theorem d_X6_fewest_13 : decode m_X6_fewest.2.1 13 = .ok (.invokestatic 58, 3) := by decide +kernel
theorem d_X6_fewest_16 : decode m_X6_fewest.2.1 16 = .ok (.ifCond .ne 6, 3) := by decide +kernel
theorem d_X6_fewest_19 : decode m_X6_fewest.2.1 19 = .ok (.bipush (-2), 2) := by decide +kernel
theorem d_X6_fewest_21 : decode m_X6_fewest.2.1 21 = .ok (.ireturn, 1) := by decide +kernel
theorem d_X6_fewest_22 : decode m_X6_fewest.2.1 22 = .ok (.aload_n 0, 1) := by decide +kernel
theorem d_X6_fewest_23 : decode m_X6_fewest.2.1 23 = .ok (.getfield 62, 3) := by decide +kernel
theorem d_X6_fewest_26 : decode m_X6_fewest.2.1 26 = .ok (.ifCond .ne 6, 3) := by decide +kernel
theorem d_X6_fewest_29 : decode m_X6_fewest.2.1 29 = .ok (.bipush (-3), 2) := by decide +kernel
theorem d_X6_fewest_31 : decode m_X6_fewest.2.1 31 = .ok (.ireturn, 1) := by decide +kernel
theorem d_X6_fewest_32 : decode m_X6_fewest.2.1 32 = .ok (.aload_n 0, 1) := by decide +kernel
theorem d_X6_fewest_33 : decode m_X6_fewest.2.1 33 = .ok (.invokevirtual 158, 3) := by decide +kernel
theorem d_X6_fewest_36 : decode m_X6_fewest.2.1 36 = .ok (.istore_n 3, 1) := by decide +kernel
theorem d_X6_fewest_37 : decode m_X6_fewest.2.1 37 = .ok (.bipush (-9), 2) := by decide +kernel
theorem d_X6_fewest_39 : decode m_X6_fewest.2.1 39 = .ok (.istore 4, 2) := by decide +kernel
theorem d_X6_fewest_41 : decode m_X6_fewest.2.1 41 = .ok (.aload_n 0, 1) := by decide +kernel
theorem d_X6_fewest_42 : decode m_X6_fewest.2.1 42 = .ok (.iconst 0, 1) := by decide +kernel
theorem d_X6_fewest_43 : decode m_X6_fewest.2.1 43 = .ok (.invokevirtual 170, 3) := by decide +kernel
theorem d_X6_fewest_46 : decode m_X6_fewest.2.1 46 = .ok (.iconst 0, 1) := by decide +kernel
theorem d_X6_fewest_47 : decode m_X6_fewest.2.1 47 = .ok (.istore 5, 2) := by decide +kernel
theorem d_X6_fewest_49 : decode m_X6_fewest.2.1 49 = .ok (.iload 5, 2) := by decide +kernel
theorem d_X6_fewest_51 : decode m_X6_fewest.2.1 51 = .ok (.iconst 1, 1) := by decide +kernel
theorem d_X6_fewest_52 : decode m_X6_fewest.2.1 52 = .ok (.aload_n 0, 1) := by decide +kernel
theorem d_X6_fewest_53 : decode m_X6_fewest.2.1 53 = .ok (.getfield 62, 3) := by decide +kernel
theorem d_X6_fewest_56 : decode m_X6_fewest.2.1 56 = .ok (.ishl, 1) := by decide +kernel
theorem d_X6_fewest_57 : decode m_X6_fewest.2.1 57 = .ok (.if_icmp .ge 89, 3) := by decide +kernel
theorem d_X6_fewest_60 : decode m_X6_fewest.2.1 60 = .ok (.iload 4, 2) := by decide +kernel
theorem d_X6_fewest_62 : decode m_X6_fewest.2.1 62 = .ok (.bipush (-9), 2) := by decide +kernel
theorem d_X6_fewest_64 : decode m_X6_fewest.2.1 64 = .ok (.if_icmp .eq 16, 3) := by decide +kernel
theorem d_X6_fewest_67 : decode m_X6_fewest.2.1 67 = .ok (.iload 5, 2) := by decide +kernel
theorem d_X6_fewest_69 : decode m_X6_fewest.2.1 69 = .ok (.invokestatic 187, 3) := by decide +kernel
theorem d_X6_fewest_72 : decode m_X6_fewest.2.1 72 = .ok (.iload 4, 2) := by decide +kernel
theorem d_X6_fewest_74 : decode m_X6_fewest.2.1 74 = .ok (.invokestatic 187, 3) := by decide +kernel
theorem d_X6_fewest_77 : decode m_X6_fewest.2.1 77 = .ok (.if_icmp .ge 7, 3) := by decide +kernel
theorem d_X6_fewest_80 : decode m_X6_fewest.2.1 80 = .ok (.iconst 1, 1) := by decide +kernel
theorem d_X6_fewest_81 : decode m_X6_fewest.2.1 81 = .ok (.goto 4, 3) := by decide +kernel
theorem d_X6_fewest_84 : decode m_X6_fewest.2.1 84 = .ok (.iconst 0, 1) := by decide +kernel
theorem d_X6_fewest_85 : decode m_X6_fewest.2.1 85 = .ok (.istore 6, 2) := by decide +kernel
theorem d_X6_fewest_87 : decode m_X6_fewest.2.1 87 = .ok (.iload 5, 2) := by decide +kernel
theorem d_X6_fewest_89 : decode m_X6_fewest.2.1 89 = .ok (.iload_n 3, 1) := by decide +kernel
theorem d_X6_fewest_90 : decode m_X6_fewest.2.1 90 = .ok (.iconst (-1), 1) := by decide +kernel
theorem d_X6_fewest_91 : decode m_X6_fewest.2.1 91 = .ok (.ixor, 1) := by decide +kernel
theorem d_X6_fewest_92 : decode m_X6_fewest.2.1 92 = .ok (.iand, 1) := by decide +kernel
theorem d_X6_fewest_93 : decode m_X6_fewest.2.1 93 = .ok (.ifCond .ne 47, 3) := by decide +kernel
theorem d_X6_fewest_96 : decode m_X6_fewest.2.1 96 = .ok (.iload 6, 2) := by decide +kernel
theorem d_X6_fewest_98 : decode m_X6_fewest.2.1 98 = .ok (.ifCond .eq 42, 3) := by decide +kernel
theorem d_X6_fewest_101 : decode m_X6_fewest.2.1 101 = .ok (.aload_n 0, 1) := by decide +kernel
theorem d_X6_fewest_102 : decode m_X6_fewest.2.1 102 = .ok (.dup, 1) := by decide +kernel
theorem d_X6_fewest_103 : decode m_X6_fewest.2.1 103 = .ok (.getfield 104, 3) := by decide +kernel
theorem d_X6_fewest_106 : decode m_X6_fewest.2.1 106 = .ok (.iload 5, 2) := by decide +kernel
theorem d_X6_fewest_108 : decode m_X6_fewest.2.1 108 = .ok (.ior, 1) := by decide +kernel
theorem d_X6_fewest_109 : decode m_X6_fewest.2.1 109 = .ok (.putfield 104, 3) := by decide +kernel
theorem d_X6_fewest_112 : decode m_X6_fewest.2.1 112 = .ok (.aload_n 0, 1) := by decide +kernel
theorem d_X6_fewest_113 : decode m_X6_fewest.2.1 113 = .ok (.iload_n 1, 1) := by decide +kernel
theorem d_X6_fewest_114 : decode m_X6_fewest.2.1 114 = .ok (.invokevirtual 184, 3) := by decide +kernel
theorem d_X6_fewest_117 : decode m_X6_fewest.2.1 117 = .ok (.istore 7, 2) := by decide +kernel
theorem d_X6_fewest_119 : decode m_X6_fewest.2.1 119 = .ok (.iload 7, 2) := by decide +kernel
theorem d_X6_fewest_121 : decode m_X6_fewest.2.1 121 = .ok (.bipush (-9), 2) := by decide +kernel
theorem d_X6_fewest_123 : decode m_X6_fewest.2.1 123 = .ok (.if_icmp .ne 8, 3) := by decide +kernel
theorem d_X6_fewest_126 : decode m_X6_fewest.2.1 126 = .ok (.iload 4, 2) := by decide +kernel
theorem d_X6_fewest_128 : decode m_X6_fewest.2.1 128 = .ok (.goto 5, 3) := by decide +kernel
theorem d_X6_fewest_131 : decode m_X6_fewest.2.1 131 = .ok (.iload 5, 2) := by decide +kernel
theorem d_X6_fewest_133 : decode m_X6_fewest.2.1 133 = .ok (.istore 4, 2) := by decide +kernel
theorem d_X6_fewest_135 : decode m_X6_fewest.2.1 135 = .ok (.aload_n 0, 1) := by decide +kernel
theorem d_X6_fewest_136 : decode m_X6_fewest.2.1 136 = .ok (.iconst 0, 1) := by decide +kernel
theorem d_X6_fewest_137 : decode m_X6_fewest.2.1 137 = .ok (.invokevirtual 181, 3) := by decide +kernel
theorem d_X6_fewest_140 : decode m_X6_fewest.2.1 140 = .ok (.iinc 5 1, 3) := by decide +kernel
theorem d_X6_fewest_143 : decode m_X6_fewest.2.1 143 = .ok (.goto (-94), 3) := by decide +kernel
theorem d_X6_fewest_146 : decode m_X6_fewest.2.1 146 = .ok (.iload 4, 2) := by decide +kernel
theorem d_X6_fewest_148 : decode m_X6_fewest.2.1 148 = .ok (.bipush (-9), 2) := by decide +kernel
theorem d_X6_fewest_150 : decode m_X6_fewest.2.1 150 = .ok (.if_icmp .ne 8, 3) := by decide +kernel
theorem d_X6_fewest_153 : decode m_X6_fewest.2.1 153 = .ok (.bipush (-9), 2) := by decide +kernel
theorem d_X6_fewest_155 : decode m_X6_fewest.2.1 155 = .ok (.goto 17, 3) := by decide +kernel
theorem d_X6_fewest_158 : decode m_X6_fewest.2.1 158 = .ok (.iload_n 2, 1) := by decide +kernel
theorem d_X6_fewest_159 : decode m_X6_fewest.2.1 159 = .ok (.ifCond .ne 11, 3) := by decide +kernel
theorem d_X6_fewest_162 : decode m_X6_fewest.2.1 162 = .ok (.iload 4, 2) := by decide +kernel
theorem d_X6_fewest_164 : decode m_X6_fewest.2.1 164 = .ok (.invokestatic 187, 3) := by decide +kernel
theorem d_X6_fewest_167 : decode m_X6_fewest.2.1 167 = .ok (.goto 5, 3) := by decide +kernel
theorem d_X6_fewest_170 : decode m_X6_fewest.2.1 170 = .ok (.iload 4, 2) := by decide +kernel
theorem d_X6_fewest_172 : decode m_X6_fewest.2.1 172 = .ok (.ireturn, 1) := by decide +kernel
theorem d_X6_weightOfSet_0 : decode m_X6_weightOfSet.2.1 0 = .ok (.iconst 0, 1) := by decide +kernel
theorem d_X6_weightOfSet_1 : decode m_X6_weightOfSet.2.1 1 = .ok (.istore_n 2, 1) := by decide +kernel
theorem d_X6_weightOfSet_2 : decode m_X6_weightOfSet.2.1 2 = .ok (.iconst 0, 1) := by decide +kernel
theorem d_X6_weightOfSet_3 : decode m_X6_weightOfSet.2.1 3 = .ok (.istore_n 3, 1) := by decide +kernel
theorem d_X6_weightOfSet_4 : decode m_X6_weightOfSet.2.1 4 = .ok (.iload_n 3, 1) := by decide +kernel
theorem d_X6_weightOfSet_5 : decode m_X6_weightOfSet.2.1 5 = .ok (.aload_n 0, 1) := by decide +kernel
theorem d_X6_weightOfSet_6 : decode m_X6_weightOfSet.2.1 6 = .ok (.getfield 62, 3) := by decide +kernel
theorem d_X6_weightOfSet_9 : decode m_X6_weightOfSet.2.1 9 = .ok (.if_icmp .ge 29, 3) := by decide +kernel
theorem d_X6_weightOfSet_12 : decode m_X6_weightOfSet.2.1 12 = .ok (.iload_n 2, 1) := by decide +kernel
theorem d_X6_weightOfSet_13 : decode m_X6_weightOfSet.2.1 13 = .ok (.iload_n 1, 1) := by decide +kernel
theorem d_X6_weightOfSet_14 : decode m_X6_weightOfSet.2.1 14 = .ok (.iload_n 3, 1) := by decide +kernel
theorem d_X6_weightOfSet_15 : decode m_X6_weightOfSet.2.1 15 = .ok (.invokestatic 136, 3) := by decide +kernel
theorem d_X6_weightOfSet_18 : decode m_X6_weightOfSet.2.1 18 = .ok (.ifCond .eq 11, 3) := by decide +kernel
theorem d_X6_weightOfSet_21 : decode m_X6_weightOfSet.2.1 21 = .ok (.aload_n 0, 1) := by decide +kernel
theorem d_X6_weightOfSet_22 : decode m_X6_weightOfSet.2.1 22 = .ok (.iload_n 3, 1) := by decide +kernel
theorem d_X6_weightOfSet_23 : decode m_X6_weightOfSet.2.1 23 = .ok (.invokevirtual 139, 3) := by decide +kernel
theorem d_X6_weightOfSet_26 : decode m_X6_weightOfSet.2.1 26 = .ok (.goto 4, 3) := by decide +kernel
theorem d_X6_weightOfSet_29 : decode m_X6_weightOfSet.2.1 29 = .ok (.iconst 0, 1) := by decide +kernel
theorem d_X6_weightOfSet_30 : decode m_X6_weightOfSet.2.1 30 = .ok (.iadd, 1) := by decide +kernel
theorem d_X6_weightOfSet_31 : decode m_X6_weightOfSet.2.1 31 = .ok (.istore_n 2, 1) := by decide +kernel
theorem d_X6_weightOfSet_32 : decode m_X6_weightOfSet.2.1 32 = .ok (.iinc 3 1, 3) := by decide +kernel
theorem d_X6_weightOfSet_35 : decode m_X6_weightOfSet.2.1 35 = .ok (.goto (-31), 3) := by decide +kernel
theorem d_X6_weightOfSet_38 : decode m_X6_weightOfSet.2.1 38 = .ok (.iload_n 2, 1) := by decide +kernel
theorem d_X6_weightOfSet_39 : decode m_X6_weightOfSet.2.1 39 = .ok (.ireturn, 1) := by decide +kernel
theorem d_X6_claps_0 : decode m_X6_claps.2.1 0 = .ok (.iload_n 1, 1) := by decide +kernel
theorem d_X6_claps_1 : decode m_X6_claps.2.1 1 = .ok (.iconst 0, 1) := by decide +kernel
theorem d_X6_claps_2 : decode m_X6_claps.2.1 2 = .ok (.bipush 90, 2) := by decide +kernel
theorem d_X6_claps_4 : decode m_X6_claps.2.1 4 = .ok (.invokestatic 58, 3) := by decide +kernel
theorem d_X6_claps_7 : decode m_X6_claps.2.1 7 = .ok (.ifCond .eq 12, 3) := by decide +kernel
theorem d_X6_claps_10 : decode m_X6_claps.2.1 10 = .ok (.iload_n 2, 1) := by decide +kernel
theorem d_X6_claps_11 : decode m_X6_claps.2.1 11 = .ok (.iconst 0, 1) := by decide +kernel
theorem d_X6_claps_12 : decode m_X6_claps.2.1 12 = .ok (.iconst 1, 1) := by decide +kernel
theorem d_X6_claps_13 : decode m_X6_claps.2.1 13 = .ok (.invokestatic 58, 3) := by decide +kernel
theorem d_X6_claps_16 : decode m_X6_claps.2.1 16 = .ok (.ifCond .ne 6, 3) := by decide +kernel
theorem d_X6_claps_19 : decode m_X6_claps.2.1 19 = .ok (.bipush (-2), 2) := by decide +kernel
theorem d_X6_claps_21 : decode m_X6_claps.2.1 21 = .ok (.ireturn, 1) := by decide +kernel
theorem d_X6_claps_22 : decode m_X6_claps.2.1 22 = .ok (.aload_n 0, 1) := by decide +kernel
theorem d_X6_claps_23 : decode m_X6_claps.2.1 23 = .ok (.getfield 62, 3) := by decide +kernel
theorem d_X6_claps_26 : decode m_X6_claps.2.1 26 = .ok (.ifCond .ne 6, 3) := by decide +kernel
theorem d_X6_claps_29 : decode m_X6_claps.2.1 29 = .ok (.bipush (-3), 2) := by decide +kernel
theorem d_X6_claps_31 : decode m_X6_claps.2.1 31 = .ok (.ireturn, 1) := by decide +kernel
theorem d_X6_claps_32 : decode m_X6_claps.2.1 32 = .ok (.aload_n 0, 1) := by decide +kernel
theorem d_X6_claps_33 : decode m_X6_claps.2.1 33 = .ok (.invokevirtual 158, 3) := by decide +kernel
theorem d_X6_claps_36 : decode m_X6_claps.2.1 36 = .ok (.istore_n 3, 1) := by decide +kernel
theorem d_X6_claps_37 : decode m_X6_claps.2.1 37 = .ok (.iconst 0, 1) := by decide +kernel
theorem d_X6_claps_38 : decode m_X6_claps.2.1 38 = .ok (.istore 4, 2) := by decide +kernel
theorem d_X6_claps_40 : decode m_X6_claps.2.1 40 = .ok (.bipush (-9), 2) := by decide +kernel
theorem d_X6_claps_42 : decode m_X6_claps.2.1 42 = .ok (.istore 5, 2) := by decide +kernel
theorem d_X6_claps_44 : decode m_X6_claps.2.1 44 = .ok (.iconst 0, 1) := by decide +kernel
theorem d_X6_claps_45 : decode m_X6_claps.2.1 45 = .ok (.istore 6, 2) := by decide +kernel
theorem d_X6_claps_47 : decode m_X6_claps.2.1 47 = .ok (.iload 6, 2) := by decide +kernel
theorem d_X6_claps_49 : decode m_X6_claps.2.1 49 = .ok (.iconst 1, 1) := by decide +kernel
theorem d_X6_claps_50 : decode m_X6_claps.2.1 50 = .ok (.aload_n 0, 1) := by decide +kernel
theorem d_X6_claps_51 : decode m_X6_claps.2.1 51 = .ok (.getfield 62, 3) := by decide +kernel
theorem d_X6_claps_54 : decode m_X6_claps.2.1 54 = .ok (.ishl, 1) := by decide +kernel
theorem d_X6_claps_55 : decode m_X6_claps.2.1 55 = .ok (.if_icmp .ge 47, 3) := by decide +kernel
theorem d_X6_claps_58 : decode m_X6_claps.2.1 58 = .ok (.iload 6, 2) := by decide +kernel
theorem d_X6_claps_60 : decode m_X6_claps.2.1 60 = .ok (.iload_n 3, 1) := by decide +kernel
theorem d_X6_claps_61 : decode m_X6_claps.2.1 61 = .ok (.iconst (-1), 1) := by decide +kernel
theorem d_X6_claps_62 : decode m_X6_claps.2.1 62 = .ok (.ixor, 1) := by decide +kernel
theorem d_X6_claps_63 : decode m_X6_claps.2.1 63 = .ok (.iand, 1) := by decide +kernel
theorem d_X6_claps_64 : decode m_X6_claps.2.1 64 = .ok (.ifCond .ne 32, 3) := by decide +kernel
theorem d_X6_claps_67 : decode m_X6_claps.2.1 67 = .ok (.aload_n 0, 1) := by decide +kernel
theorem d_X6_claps_68 : decode m_X6_claps.2.1 68 = .ok (.iload 6, 2) := by decide +kernel
theorem d_X6_claps_70 : decode m_X6_claps.2.1 70 = .ok (.invokevirtual 190, 3) := by decide +kernel
theorem d_X6_claps_73 : decode m_X6_claps.2.1 73 = .ok (.iload_n 1, 1) := by decide +kernel
theorem d_X6_claps_74 : decode m_X6_claps.2.1 74 = .ok (.if_icmp .ne 22, 3) := by decide +kernel
theorem d_X6_claps_77 : decode m_X6_claps.2.1 77 = .ok (.iinc 4 1, 3) := by decide +kernel
theorem d_X6_claps_80 : decode m_X6_claps.2.1 80 = .ok (.iload 5, 2) := by decide +kernel
theorem d_X6_claps_82 : decode m_X6_claps.2.1 82 = .ok (.bipush (-9), 2) := by decide +kernel
theorem d_X6_claps_84 : decode m_X6_claps.2.1 84 = .ok (.if_icmp .ne 8, 3) := by decide +kernel
theorem d_X6_claps_87 : decode m_X6_claps.2.1 87 = .ok (.iload 6, 2) := by decide +kernel
theorem d_X6_claps_89 : decode m_X6_claps.2.1 89 = .ok (.goto 5, 3) := by decide +kernel
theorem d_X6_claps_92 : decode m_X6_claps.2.1 92 = .ok (.iload 5, 2) := by decide +kernel
theorem d_X6_claps_94 : decode m_X6_claps.2.1 94 = .ok (.istore 5, 2) := by decide +kernel
theorem d_X6_claps_96 : decode m_X6_claps.2.1 96 = .ok (.iinc 6 1, 3) := by decide +kernel
theorem d_X6_claps_99 : decode m_X6_claps.2.1 99 = .ok (.goto (-52), 3) := by decide +kernel
theorem d_X6_claps_102 : decode m_X6_claps.2.1 102 = .ok (.iload_n 2, 1) := by decide +kernel
theorem d_X6_claps_103 : decode m_X6_claps.2.1 103 = .ok (.ifCond .ne 8, 3) := by decide +kernel
theorem d_X6_claps_106 : decode m_X6_claps.2.1 106 = .ok (.iload 4, 2) := by decide +kernel
theorem d_X6_claps_108 : decode m_X6_claps.2.1 108 = .ok (.goto 5, 3) := by decide +kernel
theorem d_X6_claps_111 : decode m_X6_claps.2.1 111 = .ok (.iload 5, 2) := by decide +kernel
theorem d_X6_claps_113 : decode m_X6_claps.2.1 113 = .ok (.ireturn, 1) := by decide +kernel
theorem d_X6_findPains_0 : decode m_X6_findPains.2.1 0 = .ok (.aload_n 0, 1) := by decide +kernel
theorem d_X6_findPains_1 : decode m_X6_findPains.2.1 1 = .ok (.iconst 0, 1) := by decide +kernel
theorem d_X6_findPains_2 : decode m_X6_findPains.2.1 2 = .ok (.invokevirtual 170, 3) := by decide +kernel
theorem d_X6_findPains_5 : decode m_X6_findPains.2.1 5 = .ok (.iconst 0, 1) := by decide +kernel
theorem d_X6_findPains_6 : decode m_X6_findPains.2.1 6 = .ok (.istore_n 3, 1) := by decide +kernel
theorem d_X6_findPains_7 : decode m_X6_findPains.2.1 7 = .ok (.iload_n 3, 1) := by decide +kernel
theorem d_X6_findPains_8 : decode m_X6_findPains.2.1 8 = .ok (.iconst 4, 1) := by decide +kernel
theorem d_X6_findPains_9 : decode m_X6_findPains.2.1 9 = .ok (.if_icmp .ge 140, 3) := by decide +kernel
theorem d_X6_findPains_12 : decode m_X6_findPains.2.1 12 = .ok (.iconst 0, 1) := by decide +kernel
theorem d_X6_findPains_13 : decode m_X6_findPains.2.1 13 = .ok (.istore 4, 2) := by decide +kernel
theorem d_X6_findPains_15 : decode m_X6_findPains.2.1 15 = .ok (.iconst 0, 1) := by decide +kernel
theorem d_X6_findPains_16 : decode m_X6_findPains.2.1 16 = .ok (.istore 5, 2) := by decide +kernel
theorem d_X6_findPains_18 : decode m_X6_findPains.2.1 18 = .ok (.iload_n 3, 1) := by decide +kernel
theorem d_X6_findPains_19 : decode m_X6_findPains.2.1 19 = .ok (.iconst 0, 1) := by decide +kernel
theorem d_X6_findPains_20 : decode m_X6_findPains.2.1 20 = .ok (.invokestatic 136, 3) := by decide +kernel
theorem d_X6_findPains_23 : decode m_X6_findPains.2.1 23 = .ok (.ifCond .eq 29, 3) := by decide +kernel
theorem d_X6_findPains_26 : decode m_X6_findPains.2.1 26 = .ok (.aload_n 0, 1) := by decide +kernel
theorem d_X6_findPains_27 : decode m_X6_findPains.2.1 27 = .ok (.iload_n 1, 1) := by decide +kernel
theorem d_X6_findPains_28 : decode m_X6_findPains.2.1 28 = .ok (.invokevirtual 142, 3) := by decide +kernel
theorem d_X6_findPains_31 : decode m_X6_findPains.2.1 31 = .ok (.ifCond .eq 11, 3) := by decide +kernel
theorem d_X6_findPains_34 : decode m_X6_findPains.2.1 34 = .ok (.aload_n 0, 1) := by decide +kernel
theorem d_X6_findPains_35 : decode m_X6_findPains.2.1 35 = .ok (.iload_n 1, 1) := by decide +kernel
theorem d_X6_findPains_36 : decode m_X6_findPains.2.1 36 = .ok (.invokevirtual 139, 3) := by decide +kernel
theorem d_X6_findPains_39 : decode m_X6_findPains.2.1 39 = .ok (.goto 5, 3) := by decide +kernel
theorem d_X6_findPains_42 : decode m_X6_findPains.2.1 42 = .ok (.bipush 6, 2) := by decide +kernel
theorem d_X6_findPains_44 : decode m_X6_findPains.2.1 44 = .ok (.istore 4, 2) := by decide +kernel
theorem d_X6_findPains_46 : decode m_X6_findPains.2.1 46 = .ok (.aload_n 0, 1) := by decide +kernel
theorem d_X6_findPains_47 : decode m_X6_findPains.2.1 47 = .ok (.iload_n 1, 1) := by decide +kernel
theorem d_X6_findPains_48 : decode m_X6_findPains.2.1 48 = .ok (.invokevirtual 155, 3) := by decide +kernel
theorem d_X6_findPains_51 : decode m_X6_findPains.2.1 51 = .ok (.pop, 1) := by decide +kernel
theorem d_X6_findPains_52 : decode m_X6_findPains.2.1 52 = .ok (.iload_n 3, 1) := by decide +kernel
theorem d_X6_findPains_53 : decode m_X6_findPains.2.1 53 = .ok (.iconst 1, 1) := by decide +kernel
theorem d_X6_findPains_54 : decode m_X6_findPains.2.1 54 = .ok (.invokestatic 136, 3) := by decide +kernel
theorem d_X6_findPains_57 : decode m_X6_findPains.2.1 57 = .ok (.ifCond .eq 29, 3) := by decide +kernel
theorem d_X6_findPains_60 : decode m_X6_findPains.2.1 60 = .ok (.aload_n 0, 1) := by decide +kernel
theorem d_X6_findPains_61 : decode m_X6_findPains.2.1 61 = .ok (.iload_n 2, 1) := by decide +kernel
theorem d_X6_findPains_62 : decode m_X6_findPains.2.1 62 = .ok (.invokevirtual 142, 3) := by decide +kernel
theorem d_X6_findPains_65 : decode m_X6_findPains.2.1 65 = .ok (.ifCond .eq 11, 3) := by decide +kernel
theorem d_X6_findPains_68 : decode m_X6_findPains.2.1 68 = .ok (.aload_n 0, 1) := by decide +kernel
theorem d_X6_findPains_69 : decode m_X6_findPains.2.1 69 = .ok (.iload_n 2, 1) := by decide +kernel
theorem d_X6_findPains_70 : decode m_X6_findPains.2.1 70 = .ok (.invokevirtual 139, 3) := by decide +kernel
theorem d_X6_findPains_73 : decode m_X6_findPains.2.1 73 = .ok (.goto 5, 3) := by decide +kernel
theorem d_X6_findPains_76 : decode m_X6_findPains.2.1 76 = .ok (.bipush 6, 2) := by decide +kernel
theorem d_X6_findPains_78 : decode m_X6_findPains.2.1 78 = .ok (.istore 5, 2) := by decide +kernel
theorem d_X6_findPains_80 : decode m_X6_findPains.2.1 80 = .ok (.aload_n 0, 1) := by decide +kernel
theorem d_X6_findPains_81 : decode m_X6_findPains.2.1 81 = .ok (.iload_n 2, 1) := by decide +kernel
theorem d_X6_findPains_82 : decode m_X6_findPains.2.1 82 = .ok (.invokevirtual 155, 3) := by decide +kernel
theorem d_X6_findPains_85 : decode m_X6_findPains.2.1 85 = .ok (.pop, 1) := by decide +kernel
theorem d_X6_findPains_86 : decode m_X6_findPains.2.1 86 = .ok (.aload_n 0, 1) := by decide +kernel
theorem d_X6_findPains_87 : decode m_X6_findPains.2.1 87 = .ok (.bipush 20, 2) := by decide +kernel
theorem d_X6_findPains_89 : decode m_X6_findPains.2.1 89 = .ok (.invokevirtual 184, 3) := by decide +kernel
theorem d_X6_findPains_92 : decode m_X6_findPains.2.1 92 = .ok (.istore 6, 2) := by decide +kernel
theorem d_X6_findPains_94 : decode m_X6_findPains.2.1 94 = .ok (.iload 6, 2) := by decide +kernel
theorem d_X6_findPains_96 : decode m_X6_findPains.2.1 96 = .ok (.bipush (-9), 2) := by decide +kernel
theorem d_X6_findPains_98 : decode m_X6_findPains.2.1 98 = .ok (.if_icmp .ne 8, 3) := by decide +kernel
theorem d_X6_findPains_101 : decode m_X6_findPains.2.1 101 = .ok (.bipush 20, 2) := by decide +kernel
theorem d_X6_findPains_103 : decode m_X6_findPains.2.1 103 = .ok (.goto 5, 3) := by decide +kernel
theorem d_X6_findPains_106 : decode m_X6_findPains.2.1 106 = .ok (.iload 6, 2) := by decide +kernel
theorem d_X6_findPains_108 : decode m_X6_findPains.2.1 108 = .ok (.istore 6, 2) := by decide +kernel
theorem d_X6_findPains_110 : decode m_X6_findPains.2.1 110 = .ok (.aload_n 0, 1) := by decide +kernel
theorem d_X6_findPains_111 : decode m_X6_findPains.2.1 111 = .ok (.getfield 43, 3) := by decide +kernel
theorem d_X6_findPains_114 : decode m_X6_findPains.2.1 114 = .ok (.iconst 2, 1) := by decide +kernel
theorem d_X6_findPains_115 : decode m_X6_findPains.2.1 115 = .ok (.iload_n 3, 1) := by decide +kernel
theorem d_X6_findPains_116 : decode m_X6_findPains.2.1 116 = .ok (.imul, 1) := by decide +kernel
theorem d_X6_findPains_117 : decode m_X6_findPains.2.1 117 = .ok (.iload 4, 2) := by decide +kernel
theorem d_X6_findPains_119 : decode m_X6_findPains.2.1 119 = .ok (.iload 6, 2) := by decide +kernel
theorem d_X6_findPains_121 : decode m_X6_findPains.2.1 121 = .ok (.iadd, 1) := by decide +kernel
theorem d_X6_findPains_122 : decode m_X6_findPains.2.1 122 = .ok (.iastore, 1) := by decide +kernel
theorem d_X6_findPains_123 : decode m_X6_findPains.2.1 123 = .ok (.aload_n 0, 1) := by decide +kernel
theorem d_X6_findPains_124 : decode m_X6_findPains.2.1 124 = .ok (.getfield 43, 3) := by decide +kernel
theorem d_X6_findPains_127 : decode m_X6_findPains.2.1 127 = .ok (.iconst 2, 1) := by decide +kernel
theorem d_X6_findPains_128 : decode m_X6_findPains.2.1 128 = .ok (.iload_n 3, 1) := by decide +kernel
theorem d_X6_findPains_129 : decode m_X6_findPains.2.1 129 = .ok (.imul, 1) := by decide +kernel
theorem d_X6_findPains_130 : decode m_X6_findPains.2.1 130 = .ok (.iconst 1, 1) := by decide +kernel
theorem d_X6_findPains_131 : decode m_X6_findPains.2.1 131 = .ok (.iadd, 1) := by decide +kernel
theorem d_X6_findPains_132 : decode m_X6_findPains.2.1 132 = .ok (.iload 5, 2) := by decide +kernel
theorem d_X6_findPains_134 : decode m_X6_findPains.2.1 134 = .ok (.iload 6, 2) := by decide +kernel
theorem d_X6_findPains_136 : decode m_X6_findPains.2.1 136 = .ok (.iadd, 1) := by decide +kernel
theorem d_X6_findPains_137 : decode m_X6_findPains.2.1 137 = .ok (.iastore, 1) := by decide +kernel
theorem d_X6_findPains_138 : decode m_X6_findPains.2.1 138 = .ok (.aload_n 0, 1) := by decide +kernel
theorem d_X6_findPains_139 : decode m_X6_findPains.2.1 139 = .ok (.iconst 0, 1) := by decide +kernel
theorem d_X6_findPains_140 : decode m_X6_findPains.2.1 140 = .ok (.invokevirtual 181, 3) := by decide +kernel
theorem d_X6_findPains_143 : decode m_X6_findPains.2.1 143 = .ok (.iinc 3 1, 3) := by decide +kernel
theorem d_X6_findPains_146 : decode m_X6_findPains.2.1 146 = .ok (.goto (-139), 3) := by decide +kernel
theorem d_X6_findPains_149 : decode m_X6_findPains.2.1 149 = .ok (.return_, 1) := by decide +kernel
theorem d_X6_rests_0 : decode m_X6_rests.2.1 0 = .ok (.aload_n 0, 1) := by decide +kernel
theorem d_X6_rests_1 : decode m_X6_rests.2.1 1 = .ok (.iload_n 1, 1) := by decide +kernel
theorem d_X6_rests_2 : decode m_X6_rests.2.1 2 = .ok (.invokevirtual 145, 3) := by decide +kernel
theorem d_X6_rests_5 : decode m_X6_rests.2.1 5 = .ok (.ifCond .eq 16, 3) := by decide +kernel
theorem d_X6_rests_8 : decode m_X6_rests.2.1 8 = .ok (.aload_n 0, 1) := by decide +kernel
theorem d_X6_rests_9 : decode m_X6_rests.2.1 9 = .ok (.iload_n 2, 1) := by decide +kernel
theorem d_X6_rests_10 : decode m_X6_rests.2.1 10 = .ok (.invokevirtual 145, 3) := by decide +kernel
theorem d_X6_rests_13 : decode m_X6_rests.2.1 13 = .ok (.ifCond .eq 8, 3) := by decide +kernel
theorem d_X6_rests_16 : decode m_X6_rests.2.1 16 = .ok (.iload_n 1, 1) := by decide +kernel
theorem d_X6_rests_17 : decode m_X6_rests.2.1 17 = .ok (.iload_n 2, 1) := by decide +kernel
theorem d_X6_rests_18 : decode m_X6_rests.2.1 18 = .ok (.if_icmp .ne 5, 3) := by decide +kernel
theorem d_X6_rests_21 : decode m_X6_rests.2.1 21 = .ok (.iconst (-1), 1) := by decide +kernel
theorem d_X6_rests_22 : decode m_X6_rests.2.1 22 = .ok (.ireturn, 1) := by decide +kernel
theorem d_X6_rests_23 : decode m_X6_rests.2.1 23 = .ok (.aload_n 0, 1) := by decide +kernel
theorem d_X6_rests_24 : decode m_X6_rests.2.1 24 = .ok (.iload_n 1, 1) := by decide +kernel
theorem d_X6_rests_25 : decode m_X6_rests.2.1 25 = .ok (.iload_n 2, 1) := by decide +kernel
theorem d_X6_rests_26 : decode m_X6_rests.2.1 26 = .ok (.invokevirtual 193, 3) := by decide +kernel
theorem d_X6_rests_29 : decode m_X6_rests.2.1 29 = .ok (.iconst 0, 1) := by decide +kernel
theorem d_X6_rests_30 : decode m_X6_rests.2.1 30 = .ok (.istore_n 3, 1) := by decide +kernel
theorem d_X6_rests_31 : decode m_X6_rests.2.1 31 = .ok (.iconst 0, 1) := by decide +kernel
theorem d_X6_rests_32 : decode m_X6_rests.2.1 32 = .ok (.istore 4, 2) := by decide +kernel
theorem d_X6_rests_34 : decode m_X6_rests.2.1 34 = .ok (.iload 4, 2) := by decide +kernel
theorem d_X6_rests_36 : decode m_X6_rests.2.1 36 = .ok (.iconst 4, 1) := by decide +kernel
theorem d_X6_rests_37 : decode m_X6_rests.2.1 37 = .ok (.if_icmp .ge 82, 3) := by decide +kernel
theorem d_X6_rests_40 : decode m_X6_rests.2.1 40 = .ok (.aload_n 0, 1) := by decide +kernel
theorem d_X6_rests_41 : decode m_X6_rests.2.1 41 = .ok (.getfield 43, 3) := by decide +kernel
theorem d_X6_rests_44 : decode m_X6_rests.2.1 44 = .ok (.iconst 2, 1) := by decide +kernel
theorem d_X6_rests_45 : decode m_X6_rests.2.1 45 = .ok (.iload 4, 2) := by decide +kernel
theorem d_X6_rests_47 : decode m_X6_rests.2.1 47 = .ok (.imul, 1) := by decide +kernel
theorem d_X6_rests_48 : decode m_X6_rests.2.1 48 = .ok (.iaload, 1) := by decide +kernel
theorem d_X6_rests_49 : decode m_X6_rests.2.1 49 = .ok (.aload_n 0, 1) := by decide +kernel
theorem d_X6_rests_50 : decode m_X6_rests.2.1 50 = .ok (.getfield 43, 3) := by decide +kernel
theorem d_X6_rests_53 : decode m_X6_rests.2.1 53 = .ok (.iconst 2, 1) := by decide +kernel
theorem d_X6_rests_54 : decode m_X6_rests.2.1 54 = .ok (.iload 4, 2) := by decide +kernel
theorem d_X6_rests_56 : decode m_X6_rests.2.1 56 = .ok (.iconst 1, 1) := by decide +kernel
theorem d_X6_rests_57 : decode m_X6_rests.2.1 57 = .ok (.ixor, 1) := by decide +kernel
theorem d_X6_rests_58 : decode m_X6_rests.2.1 58 = .ok (.imul, 1) := by decide +kernel
theorem d_X6_rests_59 : decode m_X6_rests.2.1 59 = .ok (.iaload, 1) := by decide +kernel
theorem d_X6_rests_60 : decode m_X6_rests.2.1 60 = .ok (.if_icmp .gt 34, 3) := by decide +kernel
theorem d_X6_rests_63 : decode m_X6_rests.2.1 63 = .ok (.aload_n 0, 1) := by decide +kernel
theorem d_X6_rests_64 : decode m_X6_rests.2.1 64 = .ok (.getfield 43, 3) := by decide +kernel
theorem d_X6_rests_67 : decode m_X6_rests.2.1 67 = .ok (.iconst 2, 1) := by decide +kernel
theorem d_X6_rests_68 : decode m_X6_rests.2.1 68 = .ok (.iload 4, 2) := by decide +kernel
theorem d_X6_rests_70 : decode m_X6_rests.2.1 70 = .ok (.imul, 1) := by decide +kernel
theorem d_X6_rests_71 : decode m_X6_rests.2.1 71 = .ok (.iconst 1, 1) := by decide +kernel
theorem d_X6_rests_72 : decode m_X6_rests.2.1 72 = .ok (.iadd, 1) := by decide +kernel
theorem d_X6_rests_73 : decode m_X6_rests.2.1 73 = .ok (.iaload, 1) := by decide +kernel
theorem d_X6_rests_74 : decode m_X6_rests.2.1 74 = .ok (.aload_n 0, 1) := by decide +kernel
theorem d_X6_rests_75 : decode m_X6_rests.2.1 75 = .ok (.getfield 43, 3) := by decide +kernel
theorem d_X6_rests_78 : decode m_X6_rests.2.1 78 = .ok (.iconst 2, 1) := by decide +kernel
theorem d_X6_rests_79 : decode m_X6_rests.2.1 79 = .ok (.iload 4, 2) := by decide +kernel
theorem d_X6_rests_81 : decode m_X6_rests.2.1 81 = .ok (.iconst 2, 1) := by decide +kernel
theorem d_X6_rests_82 : decode m_X6_rests.2.1 82 = .ok (.ixor, 1) := by decide +kernel
theorem d_X6_rests_83 : decode m_X6_rests.2.1 83 = .ok (.imul, 1) := by decide +kernel
theorem d_X6_rests_84 : decode m_X6_rests.2.1 84 = .ok (.iconst 1, 1) := by decide +kernel
theorem d_X6_rests_85 : decode m_X6_rests.2.1 85 = .ok (.iadd, 1) := by decide +kernel
theorem d_X6_rests_86 : decode m_X6_rests.2.1 86 = .ok (.iaload, 1) := by decide +kernel
theorem d_X6_rests_87 : decode m_X6_rests.2.1 87 = .ok (.if_icmp .gt 7, 3) := by decide +kernel
theorem d_X6_rests_90 : decode m_X6_rests.2.1 90 = .ok (.iconst 1, 1) := by decide +kernel
theorem d_X6_rests_91 : decode m_X6_rests.2.1 91 = .ok (.goto 4, 3) := by decide +kernel
theorem d_X6_rests_94 : decode m_X6_rests.2.1 94 = .ok (.iconst 0, 1) := by decide +kernel
theorem d_X6_rests_95 : decode m_X6_rests.2.1 95 = .ok (.istore 5, 2) := by decide +kernel
theorem d_X6_rests_97 : decode m_X6_rests.2.1 97 = .ok (.iload_n 3, 1) := by decide +kernel
theorem d_X6_rests_98 : decode m_X6_rests.2.1 98 = .ok (.iload 5, 2) := by decide +kernel
theorem d_X6_rests_100 : decode m_X6_rests.2.1 100 = .ok (.ifCond .eq 10, 3) := by decide +kernel
theorem d_X6_rests_103 : decode m_X6_rests.2.1 103 = .ok (.iconst 1, 1) := by decide +kernel
theorem d_X6_rests_104 : decode m_X6_rests.2.1 104 = .ok (.iload 4, 2) := by decide +kernel
theorem d_X6_rests_106 : decode m_X6_rests.2.1 106 = .ok (.ishl, 1) := by decide +kernel
theorem d_X6_rests_107 : decode m_X6_rests.2.1 107 = .ok (.goto 4, 3) := by decide +kernel
theorem d_X6_rests_110 : decode m_X6_rests.2.1 110 = .ok (.iconst 0, 1) := by decide +kernel
theorem d_X6_rests_111 : decode m_X6_rests.2.1 111 = .ok (.ior, 1) := by decide +kernel
theorem d_X6_rests_112 : decode m_X6_rests.2.1 112 = .ok (.istore_n 3, 1) := by decide +kernel
theorem d_X6_rests_113 : decode m_X6_rests.2.1 113 = .ok (.iinc 4 1, 3) := by decide +kernel
theorem d_X6_rests_116 : decode m_X6_rests.2.1 116 = .ok (.goto (-82), 3) := by decide +kernel
theorem d_X6_rests_119 : decode m_X6_rests.2.1 119 = .ok (.iload_n 3, 1) := by decide +kernel
theorem d_X6_rests_120 : decode m_X6_rests.2.1 120 = .ok (.ireturn, 1) := by decide +kernel
theorem d_X6_reading_0 : decode m_X6_reading.2.1 0 = .ok (.aload_n 0, 1) := by decide +kernel
theorem d_X6_reading_1 : decode m_X6_reading.2.1 1 = .ok (.getfield 62, 3) := by decide +kernel
theorem d_X6_reading_4 : decode m_X6_reading.2.1 4 = .ok (.ifCond .ne 6, 3) := by decide +kernel
theorem d_X6_reading_7 : decode m_X6_reading.2.1 7 = .ok (.bipush (-3), 2) := by decide +kernel
theorem d_X6_reading_9 : decode m_X6_reading.2.1 9 = .ok (.ireturn, 1) := by decide +kernel
theorem d_X6_reading_10 : decode m_X6_reading.2.1 10 = .ok (.iload_n 1, 1) := by decide +kernel
theorem d_X6_reading_11 : decode m_X6_reading.2.1 11 = .ok (.iconst 0, 1) := by decide +kernel
theorem d_X6_reading_12 : decode m_X6_reading.2.1 12 = .ok (.bipush 60, 2) := by decide +kernel
theorem d_X6_reading_14 : decode m_X6_reading.2.1 14 = .ok (.invokestatic 58, 3) := by decide +kernel
theorem d_X6_reading_17 : decode m_X6_reading.2.1 17 = .ok (.ifCond .eq 14, 3) := by decide +kernel
theorem d_X6_reading_20 : decode m_X6_reading.2.1 20 = .ok (.iload_n 2, 1) := by decide +kernel
theorem d_X6_reading_21 : decode m_X6_reading.2.1 21 = .ok (.iconst 0, 1) := by decide +kernel
theorem d_X6_reading_22 : decode m_X6_reading.2.1 22 = .ok (.sipush 200, 3) := by decide +kernel
theorem d_X6_reading_25 : decode m_X6_reading.2.1 25 = .ok (.invokestatic 58, 3) := by decide +kernel
theorem d_X6_reading_28 : decode m_X6_reading.2.1 28 = .ok (.ifCond .ne 6, 3) := by decide +kernel
theorem d_X6_reading_31 : decode m_X6_reading.2.1 31 = .ok (.bipush (-2), 2) := by decide +kernel
theorem d_X6_reading_33 : decode m_X6_reading.2.1 33 = .ok (.ireturn, 1) := by decide +kernel
theorem d_X6_reading_34 : decode m_X6_reading.2.1 34 = .ok (.aload_n 0, 1) := by decide +kernel
theorem d_X6_reading_35 : decode m_X6_reading.2.1 35 = .ok (.getfield 119, 3) := by decide +kernel
theorem d_X6_reading_38 : decode m_X6_reading.2.1 38 = .ok (.bipush 8, 2) := by decide +kernel
theorem d_X6_reading_40 : decode m_X6_reading.2.1 40 = .ok (.if_icmp .ne 6, 3) := by decide +kernel
theorem d_X6_reading_43 : decode m_X6_reading.2.1 43 = .ok (.bipush (-4), 2) := by decide +kernel
theorem d_X6_reading_45 : decode m_X6_reading.2.1 45 = .ok (.ireturn, 1) := by decide +kernel
theorem d_X6_reading_46 : decode m_X6_reading.2.1 46 = .ok (.aload_n 0, 1) := by decide +kernel
theorem d_X6_reading_47 : decode m_X6_reading.2.1 47 = .ok (.getfield 46, 3) := by decide +kernel
theorem d_X6_reading_50 : decode m_X6_reading.2.1 50 = .ok (.aload_n 0, 1) := by decide +kernel
theorem d_X6_reading_51 : decode m_X6_reading.2.1 51 = .ok (.getfield 119, 3) := by decide +kernel
theorem d_X6_reading_54 : decode m_X6_reading.2.1 54 = .ok (.iload_n 1, 1) := by decide +kernel
theorem d_X6_reading_55 : decode m_X6_reading.2.1 55 = .ok (.iastore, 1) := by decide +kernel
theorem d_X6_reading_56 : decode m_X6_reading.2.1 56 = .ok (.aload_n 0, 1) := by decide +kernel
theorem d_X6_reading_57 : decode m_X6_reading.2.1 57 = .ok (.getfield 49, 3) := by decide +kernel
theorem d_X6_reading_60 : decode m_X6_reading.2.1 60 = .ok (.aload_n 0, 1) := by decide +kernel
theorem d_X6_reading_61 : decode m_X6_reading.2.1 61 = .ok (.getfield 119, 3) := by decide +kernel
theorem d_X6_reading_64 : decode m_X6_reading.2.1 64 = .ok (.iload_n 2, 1) := by decide +kernel
theorem d_X6_reading_65 : decode m_X6_reading.2.1 65 = .ok (.iastore, 1) := by decide +kernel
theorem d_X6_reading_66 : decode m_X6_reading.2.1 66 = .ok (.aload_n 0, 1) := by decide +kernel
theorem d_X6_reading_67 : decode m_X6_reading.2.1 67 = .ok (.dup, 1) := by decide +kernel
theorem d_X6_reading_68 : decode m_X6_reading.2.1 68 = .ok (.getfield 119, 3) := by decide +kernel
theorem d_X6_reading_71 : decode m_X6_reading.2.1 71 = .ok (.iconst 1, 1) := by decide +kernel
theorem d_X6_reading_72 : decode m_X6_reading.2.1 72 = .ok (.iadd, 1) := by decide +kernel
theorem d_X6_reading_73 : decode m_X6_reading.2.1 73 = .ok (.putfield 119, 3) := by decide +kernel
theorem d_X6_reading_76 : decode m_X6_reading.2.1 76 = .ok (.aload_n 0, 1) := by decide +kernel
theorem d_X6_reading_77 : decode m_X6_reading.2.1 77 = .ok (.getfield 119, 3) := by decide +kernel
theorem d_X6_reading_80 : decode m_X6_reading.2.1 80 = .ok (.iconst 1, 1) := by decide +kernel
theorem d_X6_reading_81 : decode m_X6_reading.2.1 81 = .ok (.isub, 1) := by decide +kernel
theorem d_X6_reading_82 : decode m_X6_reading.2.1 82 = .ok (.ireturn, 1) := by decide +kernel
theorem d_X6_back_0 : decode m_X6_back.2.1 0 = .ok (.iload_n 1, 1) := by decide +kernel
theorem d_X6_back_1 : decode m_X6_back.2.1 1 = .ok (.iconst 0, 1) := by decide +kernel
theorem d_X6_back_2 : decode m_X6_back.2.1 2 = .ok (.aload_n 0, 1) := by decide +kernel
theorem d_X6_back_3 : decode m_X6_back.2.1 3 = .ok (.getfield 119, 3) := by decide +kernel
theorem d_X6_back_6 : decode m_X6_back.2.1 6 = .ok (.invokestatic 58, 3) := by decide +kernel
theorem d_X6_back_9 : decode m_X6_back.2.1 9 = .ok (.ifCond .ne 6, 3) := by decide +kernel
theorem d_X6_back_12 : decode m_X6_back.2.1 12 = .ok (.bipush (-2), 2) := by decide +kernel
theorem d_X6_back_14 : decode m_X6_back.2.1 14 = .ok (.ireturn, 1) := by decide +kernel
theorem d_X6_back_15 : decode m_X6_back.2.1 15 = .ok (.aload_n 0, 1) := by decide +kernel
theorem d_X6_back_16 : decode m_X6_back.2.1 16 = .ok (.dup, 1) := by decide +kernel
theorem d_X6_back_17 : decode m_X6_back.2.1 17 = .ok (.getfield 119, 3) := by decide +kernel
theorem d_X6_back_20 : decode m_X6_back.2.1 20 = .ok (.iload_n 1, 1) := by decide +kernel
theorem d_X6_back_21 : decode m_X6_back.2.1 21 = .ok (.isub, 1) := by decide +kernel
theorem d_X6_back_22 : decode m_X6_back.2.1 22 = .ok (.putfield 119, 3) := by decide +kernel
theorem d_X6_back_25 : decode m_X6_back.2.1 25 = .ok (.aload_n 0, 1) := by decide +kernel
theorem d_X6_back_26 : decode m_X6_back.2.1 26 = .ok (.getfield 119, 3) := by decide +kernel
theorem d_X6_back_29 : decode m_X6_back.2.1 29 = .ok (.ireturn, 1) := by decide +kernel
theorem d_X6_areSo_0 : decode m_X6_areSo.2.1 0 = .ok (.iconst 1, 1) := by decide +kernel
theorem d_X6_areSo_1 : decode m_X6_areSo.2.1 1 = .ok (.istore_n 1, 1) := by decide +kernel
theorem d_X6_areSo_2 : decode m_X6_areSo.2.1 2 = .ok (.aload_n 0, 1) := by decide +kernel
theorem d_X6_areSo_3 : decode m_X6_areSo.2.1 3 = .ok (.iconst 0, 1) := by decide +kernel
theorem d_X6_areSo_4 : decode m_X6_areSo.2.1 4 = .ok (.invokevirtual 170, 3) := by decide +kernel
theorem d_X6_areSo_7 : decode m_X6_areSo.2.1 7 = .ok (.iconst 0, 1) := by decide +kernel
theorem d_X6_areSo_8 : decode m_X6_areSo.2.1 8 = .ok (.istore_n 2, 1) := by decide +kernel
theorem d_X6_areSo_9 : decode m_X6_areSo.2.1 9 = .ok (.iload_n 2, 1) := by decide +kernel
theorem d_X6_areSo_10 : decode m_X6_areSo.2.1 10 = .ok (.aload_n 0, 1) := by decide +kernel
theorem d_X6_areSo_11 : decode m_X6_areSo.2.1 11 = .ok (.getfield 119, 3) := by decide +kernel
theorem d_X6_areSo_14 : decode m_X6_areSo.2.1 14 = .ok (.if_icmp .ge 59, 3) := by decide +kernel
theorem d_X6_areSo_17 : decode m_X6_areSo.2.1 17 = .ok (.iload_n 1, 1) := by decide +kernel
theorem d_X6_areSo_18 : decode m_X6_areSo.2.1 18 = .ok (.ifCond .eq 55, 3) := by decide +kernel
theorem d_X6_areSo_21 : decode m_X6_areSo.2.1 21 = .ok (.iconst 0, 1) := by decide +kernel
theorem d_X6_areSo_22 : decode m_X6_areSo.2.1 22 = .ok (.istore_n 3, 1) := by decide +kernel
theorem d_X6_areSo_23 : decode m_X6_areSo.2.1 23 = .ok (.iload_n 3, 1) := by decide +kernel
theorem d_X6_areSo_24 : decode m_X6_areSo.2.1 24 = .ok (.aload_n 0, 1) := by decide +kernel
theorem d_X6_areSo_25 : decode m_X6_areSo.2.1 25 = .ok (.getfield 46, 3) := by decide +kernel
theorem d_X6_areSo_28 : decode m_X6_areSo.2.1 28 = .ok (.iload_n 2, 1) := by decide +kernel
theorem d_X6_areSo_29 : decode m_X6_areSo.2.1 29 = .ok (.iaload, 1) := by decide +kernel
theorem d_X6_areSo_30 : decode m_X6_areSo.2.1 30 = .ok (.if_icmp .ge 13, 3) := by decide +kernel
theorem d_X6_areSo_33 : decode m_X6_areSo.2.1 33 = .ok (.aload_n 0, 1) := by decide +kernel
theorem d_X6_areSo_34 : decode m_X6_areSo.2.1 34 = .ok (.invokevirtual 164, 3) := by decide +kernel
theorem d_X6_areSo_37 : decode m_X6_areSo.2.1 37 = .ok (.iinc 3 1, 3) := by decide +kernel
theorem d_X6_areSo_40 : decode m_X6_areSo.2.1 40 = .ok (.goto (-17), 3) := by decide +kernel
theorem d_X6_areSo_43 : decode m_X6_areSo.2.1 43 = .ok (.aload_n 0, 1) := by decide +kernel
theorem d_X6_areSo_44 : decode m_X6_areSo.2.1 44 = .ok (.invokevirtual 151, 3) := by decide +kernel
theorem d_X6_areSo_47 : decode m_X6_areSo.2.1 47 = .ok (.aload_n 0, 1) := by decide +kernel
theorem d_X6_areSo_48 : decode m_X6_areSo.2.1 48 = .ok (.getfield 49, 3) := by decide +kernel
theorem d_X6_areSo_51 : decode m_X6_areSo.2.1 51 = .ok (.iload_n 2, 1) := by decide +kernel
theorem d_X6_areSo_52 : decode m_X6_areSo.2.1 52 = .ok (.iaload, 1) := by decide +kernel
theorem d_X6_areSo_53 : decode m_X6_areSo.2.1 53 = .ok (.if_icmp .ne 7, 3) := by decide +kernel
theorem d_X6_areSo_56 : decode m_X6_areSo.2.1 56 = .ok (.iconst 1, 1) := by decide +kernel
theorem d_X6_areSo_57 : decode m_X6_areSo.2.1 57 = .ok (.goto 4, 3) := by decide +kernel
theorem d_X6_areSo_60 : decode m_X6_areSo.2.1 60 = .ok (.iconst 0, 1) := by decide +kernel
theorem d_X6_areSo_61 : decode m_X6_areSo.2.1 61 = .ok (.istore_n 1, 1) := by decide +kernel
theorem d_X6_areSo_62 : decode m_X6_areSo.2.1 62 = .ok (.aload_n 0, 1) := by decide +kernel
theorem d_X6_areSo_63 : decode m_X6_areSo.2.1 63 = .ok (.iconst 0, 1) := by decide +kernel
theorem d_X6_areSo_64 : decode m_X6_areSo.2.1 64 = .ok (.invokevirtual 181, 3) := by decide +kernel
theorem d_X6_areSo_67 : decode m_X6_areSo.2.1 67 = .ok (.iinc 2 1, 3) := by decide +kernel
theorem d_X6_areSo_70 : decode m_X6_areSo.2.1 70 = .ok (.goto (-61), 3) := by decide +kernel
theorem d_X6_areSo_73 : decode m_X6_areSo.2.1 73 = .ok (.iload_n 1, 1) := by decide +kernel
theorem d_X6_areSo_74 : decode m_X6_areSo.2.1 74 = .ok (.ireturn, 1) := by decide +kernel
theorem d_X6_kinds_0 : decode m_X6_kinds.2.1 0 = .ok (.aload_n 0, 1) := by decide +kernel
theorem d_X6_kinds_1 : decode m_X6_kinds.2.1 1 = .ok (.iload_n 1, 1) := by decide +kernel
theorem d_X6_kinds_2 : decode m_X6_kinds.2.1 2 = .ok (.invokevirtual 145, 3) := by decide +kernel
theorem d_X6_kinds_5 : decode m_X6_kinds.2.1 5 = .ok (.ifCond .ne 5, 3) := by decide +kernel
theorem d_X6_kinds_8 : decode m_X6_kinds.2.1 8 = .ok (.iconst (-1), 1) := by decide +kernel
theorem d_X6_kinds_9 : decode m_X6_kinds.2.1 9 = .ok (.ireturn, 1) := by decide +kernel
theorem d_X6_kinds_10 : decode m_X6_kinds.2.1 10 = .ok (.aload_n 0, 1) := by decide +kernel
theorem d_X6_kinds_11 : decode m_X6_kinds.2.1 11 = .ok (.getfield 19, 3) := by decide +kernel
theorem d_X6_kinds_14 : decode m_X6_kinds.2.1 14 = .ok (.iload_n 1, 1) := by decide +kernel
theorem d_X6_kinds_15 : decode m_X6_kinds.2.1 15 = .ok (.iaload, 1) := by decide +kernel
theorem d_X6_kinds_16 : decode m_X6_kinds.2.1 16 = .ok (.istore_n 2, 1) := by decide +kernel
theorem d_X6_kinds_17 : decode m_X6_kinds.2.1 17 = .ok (.iconst 0, 1) := by decide +kernel
theorem d_X6_kinds_18 : decode m_X6_kinds.2.1 18 = .ok (.istore_n 3, 1) := by decide +kernel
theorem d_X6_kinds_19 : decode m_X6_kinds.2.1 19 = .ok (.iconst 0, 1) := by decide +kernel
theorem d_X6_kinds_20 : decode m_X6_kinds.2.1 20 = .ok (.istore 4, 2) := by decide +kernel
theorem d_X6_kinds_22 : decode m_X6_kinds.2.1 22 = .ok (.iload 4, 2) := by decide +kernel
theorem d_X6_kinds_24 : decode m_X6_kinds.2.1 24 = .ok (.iconst 3, 1) := by decide +kernel
theorem d_X6_kinds_25 : decode m_X6_kinds.2.1 25 = .ok (.if_icmp .ge 35, 3) := by decide +kernel
theorem d_X6_kinds_28 : decode m_X6_kinds.2.1 28 = .ok (.aload_n 0, 1) := by decide +kernel
theorem d_X6_kinds_29 : decode m_X6_kinds.2.1 29 = .ok (.getfield 19, 3) := by decide +kernel
theorem d_X6_kinds_32 : decode m_X6_kinds.2.1 32 = .ok (.iload_n 1, 1) := by decide +kernel
theorem d_X6_kinds_33 : decode m_X6_kinds.2.1 33 = .ok (.iload 4, 2) := by decide +kernel
theorem d_X6_kinds_35 : decode m_X6_kinds.2.1 35 = .ok (.iastore, 1) := by decide +kernel
theorem d_X6_kinds_36 : decode m_X6_kinds.2.1 36 = .ok (.iload_n 3, 1) := by decide +kernel
theorem d_X6_kinds_37 : decode m_X6_kinds.2.1 37 = .ok (.aload_n 0, 1) := by decide +kernel
theorem d_X6_kinds_38 : decode m_X6_kinds.2.1 38 = .ok (.invokevirtual 197, 3) := by decide +kernel
theorem d_X6_kinds_41 : decode m_X6_kinds.2.1 41 = .ok (.ifCond .eq 10, 3) := by decide +kernel
theorem d_X6_kinds_44 : decode m_X6_kinds.2.1 44 = .ok (.iconst 1, 1) := by decide +kernel
theorem d_X6_kinds_45 : decode m_X6_kinds.2.1 45 = .ok (.iload 4, 2) := by decide +kernel
theorem d_X6_kinds_47 : decode m_X6_kinds.2.1 47 = .ok (.ishl, 1) := by decide +kernel
theorem d_X6_kinds_48 : decode m_X6_kinds.2.1 48 = .ok (.goto 4, 3) := by decide +kernel
theorem d_X6_kinds_51 : decode m_X6_kinds.2.1 51 = .ok (.iconst 0, 1) := by decide +kernel
theorem d_X6_kinds_52 : decode m_X6_kinds.2.1 52 = .ok (.ior, 1) := by decide +kernel
theorem d_X6_kinds_53 : decode m_X6_kinds.2.1 53 = .ok (.istore_n 3, 1) := by decide +kernel
theorem d_X6_kinds_54 : decode m_X6_kinds.2.1 54 = .ok (.iinc 4 1, 3) := by decide +kernel
theorem d_X6_kinds_57 : decode m_X6_kinds.2.1 57 = .ok (.goto (-35), 3) := by decide +kernel
theorem d_X6_kinds_60 : decode m_X6_kinds.2.1 60 = .ok (.aload_n 0, 1) := by decide +kernel
theorem d_X6_kinds_61 : decode m_X6_kinds.2.1 61 = .ok (.getfield 19, 3) := by decide +kernel
theorem d_X6_kinds_64 : decode m_X6_kinds.2.1 64 = .ok (.iload_n 1, 1) := by decide +kernel
theorem d_X6_kinds_65 : decode m_X6_kinds.2.1 65 = .ok (.iload_n 2, 1) := by decide +kernel
theorem d_X6_kinds_66 : decode m_X6_kinds.2.1 66 = .ok (.iastore, 1) := by decide +kernel
theorem d_X6_kinds_67 : decode m_X6_kinds.2.1 67 = .ok (.iload_n 3, 1) := by decide +kernel
theorem d_X6_kinds_68 : decode m_X6_kinds.2.1 68 = .ok (.ireturn, 1) := by decide +kernel
theorem d_X6_wrongs_0 : decode m_X6_wrongs.2.1 0 = .ok (.aload_n 0, 1) := by decide +kernel
theorem d_X6_wrongs_1 : decode m_X6_wrongs.2.1 1 = .ok (.iload_n 1, 1) := by decide +kernel
theorem d_X6_wrongs_2 : decode m_X6_wrongs.2.1 2 = .ok (.invokevirtual 145, 3) := by decide +kernel
theorem d_X6_wrongs_5 : decode m_X6_wrongs.2.1 5 = .ok (.ifCond .ne 5, 3) := by decide +kernel
theorem d_X6_wrongs_8 : decode m_X6_wrongs.2.1 8 = .ok (.iconst (-1), 1) := by decide +kernel
theorem d_X6_wrongs_9 : decode m_X6_wrongs.2.1 9 = .ok (.ireturn, 1) := by decide +kernel
theorem d_X6_wrongs_10 : decode m_X6_wrongs.2.1 10 = .ok (.aload_n 0, 1) := by decide +kernel
theorem d_X6_wrongs_11 : decode m_X6_wrongs.2.1 11 = .ok (.getfield 22, 3) := by decide +kernel
theorem d_X6_wrongs_14 : decode m_X6_wrongs.2.1 14 = .ok (.iload_n 1, 1) := by decide +kernel
theorem d_X6_wrongs_15 : decode m_X6_wrongs.2.1 15 = .ok (.iaload, 1) := by decide +kernel
theorem d_X6_wrongs_16 : decode m_X6_wrongs.2.1 16 = .ok (.istore_n 2, 1) := by decide +kernel
theorem d_X6_wrongs_17 : decode m_X6_wrongs.2.1 17 = .ok (.iconst 0, 1) := by decide +kernel
theorem d_X6_wrongs_18 : decode m_X6_wrongs.2.1 18 = .ok (.istore_n 3, 1) := by decide +kernel
theorem d_X6_wrongs_19 : decode m_X6_wrongs.2.1 19 = .ok (.iconst 0, 1) := by decide +kernel
theorem d_X6_wrongs_20 : decode m_X6_wrongs.2.1 20 = .ok (.istore 4, 2) := by decide +kernel
theorem d_X6_wrongs_22 : decode m_X6_wrongs.2.1 22 = .ok (.iload 4, 2) := by decide +kernel
theorem d_X6_wrongs_24 : decode m_X6_wrongs.2.1 24 = .ok (.bipush 9, 2) := by decide +kernel
theorem d_X6_wrongs_26 : decode m_X6_wrongs.2.1 26 = .ok (.if_icmp .gt 35, 3) := by decide +kernel
theorem d_X6_wrongs_29 : decode m_X6_wrongs.2.1 29 = .ok (.aload_n 0, 1) := by decide +kernel
theorem d_X6_wrongs_30 : decode m_X6_wrongs.2.1 30 = .ok (.getfield 22, 3) := by decide +kernel
theorem d_X6_wrongs_33 : decode m_X6_wrongs.2.1 33 = .ok (.iload_n 1, 1) := by decide +kernel
theorem d_X6_wrongs_34 : decode m_X6_wrongs.2.1 34 = .ok (.iload 4, 2) := by decide +kernel
theorem d_X6_wrongs_36 : decode m_X6_wrongs.2.1 36 = .ok (.iastore, 1) := by decide +kernel
theorem d_X6_wrongs_37 : decode m_X6_wrongs.2.1 37 = .ok (.iload_n 3, 1) := by decide +kernel
theorem d_X6_wrongs_38 : decode m_X6_wrongs.2.1 38 = .ok (.aload_n 0, 1) := by decide +kernel
theorem d_X6_wrongs_39 : decode m_X6_wrongs.2.1 39 = .ok (.invokevirtual 197, 3) := by decide +kernel
theorem d_X6_wrongs_42 : decode m_X6_wrongs.2.1 42 = .ok (.ifCond .eq 10, 3) := by decide +kernel
theorem d_X6_wrongs_45 : decode m_X6_wrongs.2.1 45 = .ok (.iconst 1, 1) := by decide +kernel
theorem d_X6_wrongs_46 : decode m_X6_wrongs.2.1 46 = .ok (.iload 4, 2) := by decide +kernel
theorem d_X6_wrongs_48 : decode m_X6_wrongs.2.1 48 = .ok (.ishl, 1) := by decide +kernel
theorem d_X6_wrongs_49 : decode m_X6_wrongs.2.1 49 = .ok (.goto 4, 3) := by decide +kernel
theorem d_X6_wrongs_52 : decode m_X6_wrongs.2.1 52 = .ok (.iconst 0, 1) := by decide +kernel
theorem d_X6_wrongs_53 : decode m_X6_wrongs.2.1 53 = .ok (.ior, 1) := by decide +kernel
theorem d_X6_wrongs_54 : decode m_X6_wrongs.2.1 54 = .ok (.istore_n 3, 1) := by decide +kernel
theorem d_X6_wrongs_55 : decode m_X6_wrongs.2.1 55 = .ok (.iinc 4 1, 3) := by decide +kernel
theorem d_X6_wrongs_58 : decode m_X6_wrongs.2.1 58 = .ok (.goto (-36), 3) := by decide +kernel
theorem d_X6_wrongs_61 : decode m_X6_wrongs.2.1 61 = .ok (.aload_n 0, 1) := by decide +kernel
theorem d_X6_wrongs_62 : decode m_X6_wrongs.2.1 62 = .ok (.getfield 22, 3) := by decide +kernel
theorem d_X6_wrongs_65 : decode m_X6_wrongs.2.1 65 = .ok (.iload_n 1, 1) := by decide +kernel
theorem d_X6_wrongs_66 : decode m_X6_wrongs.2.1 66 = .ok (.iload_n 2, 1) := by decide +kernel
theorem d_X6_wrongs_67 : decode m_X6_wrongs.2.1 67 = .ok (.iastore, 1) := by decide +kernel
theorem d_X6_wrongs_68 : decode m_X6_wrongs.2.1 68 = .ok (.iload_n 3, 1) := by decide +kernel
theorem d_X6_wrongs_69 : decode m_X6_wrongs.2.1 69 = .ok (.ireturn, 1) := by decide +kernel
theorem d_X6_steps_0 : decode m_X6_steps.2.1 0 = .ok (.aload_n 0, 1) := by decide +kernel
theorem d_X6_steps_1 : decode m_X6_steps.2.1 1 = .ok (.getfield 62, 3) := by decide +kernel
theorem d_X6_steps_4 : decode m_X6_steps.2.1 4 = .ok (.ifCond .ne 6, 3) := by decide +kernel
theorem d_X6_steps_7 : decode m_X6_steps.2.1 7 = .ok (.bipush (-3), 2) := by decide +kernel
theorem d_X6_steps_9 : decode m_X6_steps.2.1 9 = .ok (.ireturn, 1) := by decide +kernel
theorem d_X6_steps_10 : decode m_X6_steps.2.1 10 = .ok (.aload_n 0, 1) := by decide +kernel
theorem d_X6_steps_11 : decode m_X6_steps.2.1 11 = .ok (.getfield 101, 3) := by decide +kernel
theorem d_X6_steps_14 : decode m_X6_steps.2.1 14 = .ok (.istore_n 1, 1) := by decide +kernel
theorem d_X6_steps_15 : decode m_X6_steps.2.1 15 = .ok (.iconst 0, 1) := by decide +kernel
theorem d_X6_steps_16 : decode m_X6_steps.2.1 16 = .ok (.istore_n 2, 1) := by decide +kernel
theorem d_X6_steps_17 : decode m_X6_steps.2.1 17 = .ok (.iconst 1, 1) := by decide +kernel
theorem d_X6_steps_18 : decode m_X6_steps.2.1 18 = .ok (.istore_n 3, 1) := by decide +kernel
theorem d_X6_steps_19 : decode m_X6_steps.2.1 19 = .ok (.iload_n 3, 1) := by decide +kernel
theorem d_X6_steps_20 : decode m_X6_steps.2.1 20 = .ok (.iconst 4, 1) := by decide +kernel
theorem d_X6_steps_21 : decode m_X6_steps.2.1 21 = .ok (.if_icmp .gt 31, 3) := by decide +kernel
theorem d_X6_steps_24 : decode m_X6_steps.2.1 24 = .ok (.aload_n 0, 1) := by decide +kernel
theorem d_X6_steps_25 : decode m_X6_steps.2.1 25 = .ok (.iload_n 3, 1) := by decide +kernel
theorem d_X6_steps_26 : decode m_X6_steps.2.1 26 = .ok (.putfield 101, 3) := by decide +kernel
theorem d_X6_steps_29 : decode m_X6_steps.2.1 29 = .ok (.iload_n 2, 1) := by decide +kernel
theorem d_X6_steps_30 : decode m_X6_steps.2.1 30 = .ok (.aload_n 0, 1) := by decide +kernel
theorem d_X6_steps_31 : decode m_X6_steps.2.1 31 = .ok (.invokevirtual 197, 3) := by decide +kernel
theorem d_X6_steps_34 : decode m_X6_steps.2.1 34 = .ok (.ifCond .eq 9, 3) := by decide +kernel
theorem d_X6_steps_37 : decode m_X6_steps.2.1 37 = .ok (.iconst 1, 1) := by decide +kernel
theorem d_X6_steps_38 : decode m_X6_steps.2.1 38 = .ok (.iload_n 3, 1) := by decide +kernel
theorem d_X6_steps_39 : decode m_X6_steps.2.1 39 = .ok (.ishl, 1) := by decide +kernel
theorem d_X6_steps_40 : decode m_X6_steps.2.1 40 = .ok (.goto 4, 3) := by decide +kernel
theorem d_X6_steps_43 : decode m_X6_steps.2.1 43 = .ok (.iconst 0, 1) := by decide +kernel
theorem d_X6_steps_44 : decode m_X6_steps.2.1 44 = .ok (.ior, 1) := by decide +kernel
theorem d_X6_steps_45 : decode m_X6_steps.2.1 45 = .ok (.istore_n 2, 1) := by decide +kernel
theorem d_X6_steps_46 : decode m_X6_steps.2.1 46 = .ok (.iinc 3 1, 3) := by decide +kernel
theorem d_X6_steps_49 : decode m_X6_steps.2.1 49 = .ok (.goto (-30), 3) := by decide +kernel
theorem d_X6_steps_52 : decode m_X6_steps.2.1 52 = .ok (.aload_n 0, 1) := by decide +kernel
theorem d_X6_steps_53 : decode m_X6_steps.2.1 53 = .ok (.iload_n 1, 1) := by decide +kernel
theorem d_X6_steps_54 : decode m_X6_steps.2.1 54 = .ok (.putfield 101, 3) := by decide +kernel
theorem d_X6_steps_57 : decode m_X6_steps.2.1 57 = .ok (.iload_n 2, 1) := by decide +kernel
theorem d_X6_steps_58 : decode m_X6_steps.2.1 58 = .ok (.ireturn, 1) := by decide +kernel
theorem d_X6_inLeastTerms_0 : decode m_X6_inLeastTerms.2.1 0 = .ok (.lload_n 0, 1) := by decide +kernel
theorem d_X6_inLeastTerms_1 : decode m_X6_inLeastTerms.2.1 1 = .ok (.lstore 5, 2) := by decide +kernel
theorem d_X6_inLeastTerms_3 : decode m_X6_inLeastTerms.2.1 3 = .ok (.lload_n 2, 1) := by decide +kernel
theorem d_X6_inLeastTerms_4 : decode m_X6_inLeastTerms.2.1 4 = .ok (.lstore 7, 2) := by decide +kernel
theorem d_X6_inLeastTerms_6 : decode m_X6_inLeastTerms.2.1 6 = .ok (.lload 7, 2) := by decide +kernel
theorem d_X6_inLeastTerms_8 : decode m_X6_inLeastTerms.2.1 8 = .ok (.lconst 0, 1) := by decide +kernel
theorem d_X6_inLeastTerms_9 : decode m_X6_inLeastTerms.2.1 9 = .ok (.lcmp, 1) := by decide +kernel
theorem d_X6_inLeastTerms_10 : decode m_X6_inLeastTerms.2.1 10 = .ok (.ifCond .eq 21, 3) := by decide +kernel
theorem d_X6_inLeastTerms_13 : decode m_X6_inLeastTerms.2.1 13 = .ok (.lload 5, 2) := by decide +kernel
theorem d_X6_inLeastTerms_15 : decode m_X6_inLeastTerms.2.1 15 = .ok (.lload 7, 2) := by decide +kernel
theorem d_X6_inLeastTerms_17 : decode m_X6_inLeastTerms.2.1 17 = .ok (.lrem, 1) := by decide +kernel
theorem d_X6_inLeastTerms_18 : decode m_X6_inLeastTerms.2.1 18 = .ok (.lstore 9, 2) := by decide +kernel
theorem d_X6_inLeastTerms_20 : decode m_X6_inLeastTerms.2.1 20 = .ok (.lload 7, 2) := by decide +kernel
theorem d_X6_inLeastTerms_22 : decode m_X6_inLeastTerms.2.1 22 = .ok (.lstore 5, 2) := by decide +kernel
theorem d_X6_inLeastTerms_24 : decode m_X6_inLeastTerms.2.1 24 = .ok (.lload 9, 2) := by decide +kernel
theorem d_X6_inLeastTerms_26 : decode m_X6_inLeastTerms.2.1 26 = .ok (.lstore 7, 2) := by decide +kernel
theorem d_X6_inLeastTerms_28 : decode m_X6_inLeastTerms.2.1 28 = .ok (.goto (-22), 3) := by decide +kernel
theorem d_X6_inLeastTerms_31 : decode m_X6_inLeastTerms.2.1 31 = .ok (.iload 4, 2) := by decide +kernel
theorem d_X6_inLeastTerms_33 : decode m_X6_inLeastTerms.2.1 33 = .ok (.ifCond .ne 10, 3) := by decide +kernel
theorem d_X6_inLeastTerms_36 : decode m_X6_inLeastTerms.2.1 36 = .ok (.lload_n 0, 1) := by decide +kernel
theorem d_X6_inLeastTerms_37 : decode m_X6_inLeastTerms.2.1 37 = .ok (.lload 5, 2) := by decide +kernel
theorem d_X6_inLeastTerms_39 : decode m_X6_inLeastTerms.2.1 39 = .ok (.ldiv, 1) := by decide +kernel
theorem d_X6_inLeastTerms_40 : decode m_X6_inLeastTerms.2.1 40 = .ok (.goto 7, 3) := by decide +kernel
theorem d_X6_inLeastTerms_43 : decode m_X6_inLeastTerms.2.1 43 = .ok (.lload_n 2, 1) := by decide +kernel
theorem d_X6_inLeastTerms_44 : decode m_X6_inLeastTerms.2.1 44 = .ok (.lload 5, 2) := by decide +kernel
theorem d_X6_inLeastTerms_46 : decode m_X6_inLeastTerms.2.1 46 = .ok (.ldiv, 1) := by decide +kernel
theorem d_X6_inLeastTerms_47 : decode m_X6_inLeastTerms.2.1 47 = .ok (.lreturn, 1) := by decide +kernel
theorem d_X6_odds_0 : decode m_X6_odds.2.1 0 = .ok (.iload_n 1, 1) := by decide +kernel
theorem d_X6_odds_1 : decode m_X6_odds.2.1 1 = .ok (.iconst 0, 1) := by decide +kernel
theorem d_X6_odds_2 : decode m_X6_odds.2.1 2 = .ok (.bipush 90, 2) := by decide +kernel
theorem d_X6_odds_4 : decode m_X6_odds.2.1 4 = .ok (.invokestatic 58, 3) := by decide +kernel
theorem d_X6_odds_7 : decode m_X6_odds.2.1 7 = .ok (.ifCond .eq 19, 3) := by decide +kernel
theorem d_X6_odds_10 : decode m_X6_odds.2.1 10 = .ok (.iload_n 2, 1) := by decide +kernel
theorem d_X6_odds_11 : decode m_X6_odds.2.1 11 = .ok (.iconst 0, 1) := by decide +kernel
theorem d_X6_odds_12 : decode m_X6_odds.2.1 12 = .ok (.iconst 1, 1) := by decide +kernel
theorem d_X6_odds_13 : decode m_X6_odds.2.1 13 = .ok (.invokestatic 58, 3) := by decide +kernel
theorem d_X6_odds_16 : decode m_X6_odds.2.1 16 = .ok (.ifCond .eq 10, 3) := by decide +kernel
theorem d_X6_odds_19 : decode m_X6_odds.2.1 19 = .ok (.aload_n 0, 1) := by decide +kernel
theorem d_X6_odds_20 : decode m_X6_odds.2.1 20 = .ok (.getfield 62, 3) := by decide +kernel
theorem d_X6_odds_23 : decode m_X6_odds.2.1 23 = .ok (.ifCond .ne 7, 3) := by decide +kernel
theorem d_X6_odds_26 : decode m_X6_odds.2.1 26 = .ok (.ldc2_w 56, 3) := by decide +kernel
theorem d_X6_odds_29 : decode m_X6_odds.2.1 29 = .ok (.lreturn, 1) := by decide +kernel
theorem d_X6_odds_30 : decode m_X6_odds.2.1 30 = .ok (.aload_n 0, 1) := by decide +kernel
theorem d_X6_odds_31 : decode m_X6_odds.2.1 31 = .ok (.invokevirtual 158, 3) := by decide +kernel
theorem d_X6_odds_34 : decode m_X6_odds.2.1 34 = .ok (.istore_n 3, 1) := by decide +kernel
theorem d_X6_odds_35 : decode m_X6_odds.2.1 35 = .ok (.iconst 0, 1) := by decide +kernel
theorem d_X6_odds_36 : decode m_X6_odds.2.1 36 = .ok (.istore 4, 2) := by decide +kernel
theorem d_X6_odds_38 : decode m_X6_odds.2.1 38 = .ok (.iconst 0, 1) := by decide +kernel
theorem d_X6_odds_39 : decode m_X6_odds.2.1 39 = .ok (.istore 5, 2) := by decide +kernel
theorem d_X6_odds_41 : decode m_X6_odds.2.1 41 = .ok (.iconst 0, 1) := by decide +kernel
theorem d_X6_odds_42 : decode m_X6_odds.2.1 42 = .ok (.istore 6, 2) := by decide +kernel
theorem d_X6_odds_44 : decode m_X6_odds.2.1 44 = .ok (.iload 6, 2) := by decide +kernel
theorem d_X6_odds_46 : decode m_X6_odds.2.1 46 = .ok (.iconst 1, 1) := by decide +kernel
theorem d_X6_odds_47 : decode m_X6_odds.2.1 47 = .ok (.aload_n 0, 1) := by decide +kernel
theorem d_X6_odds_48 : decode m_X6_odds.2.1 48 = .ok (.getfield 62, 3) := by decide +kernel
theorem d_X6_odds_51 : decode m_X6_odds.2.1 51 = .ok (.ishl, 1) := by decide +kernel
theorem d_X6_odds_52 : decode m_X6_odds.2.1 52 = .ok (.if_icmp .ge 41, 3) := by decide +kernel
theorem d_X6_odds_55 : decode m_X6_odds.2.1 55 = .ok (.iload 6, 2) := by decide +kernel
theorem d_X6_odds_57 : decode m_X6_odds.2.1 57 = .ok (.iload_n 3, 1) := by decide +kernel
theorem d_X6_odds_58 : decode m_X6_odds.2.1 58 = .ok (.iconst (-1), 1) := by decide +kernel
theorem d_X6_odds_59 : decode m_X6_odds.2.1 59 = .ok (.ixor, 1) := by decide +kernel
theorem d_X6_odds_60 : decode m_X6_odds.2.1 60 = .ok (.iand, 1) := by decide +kernel
theorem d_X6_odds_61 : decode m_X6_odds.2.1 61 = .ok (.ifCond .ne 26, 3) := by decide +kernel
theorem d_X6_odds_64 : decode m_X6_odds.2.1 64 = .ok (.iinc 4 1, 3) := by decide +kernel
theorem d_X6_odds_67 : decode m_X6_odds.2.1 67 = .ok (.iload 5, 2) := by decide +kernel
theorem d_X6_odds_69 : decode m_X6_odds.2.1 69 = .ok (.aload_n 0, 1) := by decide +kernel
theorem d_X6_odds_70 : decode m_X6_odds.2.1 70 = .ok (.iload 6, 2) := by decide +kernel
theorem d_X6_odds_72 : decode m_X6_odds.2.1 72 = .ok (.invokevirtual 190, 3) := by decide +kernel
theorem d_X6_odds_75 : decode m_X6_odds.2.1 75 = .ok (.iload_n 1, 1) := by decide +kernel
theorem d_X6_odds_76 : decode m_X6_odds.2.1 76 = .ok (.if_icmp .lt 7, 3) := by decide +kernel
theorem d_X6_odds_79 : decode m_X6_odds.2.1 79 = .ok (.iconst 1, 1) := by decide +kernel
theorem d_X6_odds_80 : decode m_X6_odds.2.1 80 = .ok (.goto 4, 3) := by decide +kernel
theorem d_X6_odds_83 : decode m_X6_odds.2.1 83 = .ok (.iconst 0, 1) := by decide +kernel
theorem d_X6_odds_84 : decode m_X6_odds.2.1 84 = .ok (.iadd, 1) := by decide +kernel
theorem d_X6_odds_85 : decode m_X6_odds.2.1 85 = .ok (.istore 5, 2) := by decide +kernel
theorem d_X6_odds_87 : decode m_X6_odds.2.1 87 = .ok (.iinc 6 1, 3) := by decide +kernel
theorem d_X6_odds_90 : decode m_X6_odds.2.1 90 = .ok (.goto (-46), 3) := by decide +kernel
theorem d_X6_odds_93 : decode m_X6_odds.2.1 93 = .ok (.iload 5, 2) := by decide +kernel
theorem d_X6_odds_95 : decode m_X6_odds.2.1 95 = .ok (.i2l, 1) := by decide +kernel
theorem d_X6_odds_96 : decode m_X6_odds.2.1 96 = .ok (.iload 4, 2) := by decide +kernel
theorem d_X6_odds_98 : decode m_X6_odds.2.1 98 = .ok (.i2l, 1) := by decide +kernel
theorem d_X6_odds_99 : decode m_X6_odds.2.1 99 = .ok (.iload_n 2, 1) := by decide +kernel
theorem d_X6_odds_100 : decode m_X6_odds.2.1 100 = .ok (.invokestatic 201, 3) := by decide +kernel
theorem d_X6_odds_103 : decode m_X6_odds.2.1 103 = .ok (.lreturn, 1) := by decide +kernel
theorem d_X6_sheet_0 : decode m_X6_sheet.2.1 0 = .ok (.aload_n 0, 1) := by decide +kernel
theorem d_X6_sheet_1 : decode m_X6_sheet.2.1 1 = .ok (.iconst 0, 1) := by decide +kernel
theorem d_X6_sheet_2 : decode m_X6_sheet.2.1 2 = .ok (.putfield 52, 3) := by decide +kernel
theorem d_X6_sheet_5 : decode m_X6_sheet.2.1 5 = .ok (.iload_n 1, 1) := by decide +kernel
theorem d_X6_sheet_6 : decode m_X6_sheet.2.1 6 = .ok (.invokestatic 71, 3) := by decide +kernel
theorem d_X6_sheet_9 : decode m_X6_sheet.2.1 9 = .ok (.ifCond .ne 5, 3) := by decide +kernel
theorem d_X6_sheet_12 : decode m_X6_sheet.2.1 12 = .ok (.iconst (-1), 1) := by decide +kernel
theorem d_X6_sheet_13 : decode m_X6_sheet.2.1 13 = .ok (.ireturn, 1) := by decide +kernel
theorem d_X6_sheet_14 : decode m_X6_sheet.2.1 14 = .ok (.iload_n 2, 1) := by decide +kernel
theorem d_X6_sheet_15 : decode m_X6_sheet.2.1 15 = .ok (.invokestatic 75, 3) := by decide +kernel
theorem d_X6_sheet_18 : decode m_X6_sheet.2.1 18 = .ok (.ifCond .eq 9, 3) := by decide +kernel
theorem d_X6_sheet_21 : decode m_X6_sheet.2.1 21 = .ok (.iload_n 3, 1) := by decide +kernel
theorem d_X6_sheet_22 : decode m_X6_sheet.2.1 22 = .ok (.bipush 60, 2) := by decide +kernel
theorem d_X6_sheet_24 : decode m_X6_sheet.2.1 24 = .ok (.if_icmp .le 6, 3) := by decide +kernel
theorem d_X6_sheet_27 : decode m_X6_sheet.2.1 27 = .ok (.bipush (-2), 2) := by decide +kernel
theorem d_X6_sheet_29 : decode m_X6_sheet.2.1 29 = .ok (.ireturn, 1) := by decide +kernel
theorem d_X6_sheet_30 : decode m_X6_sheet.2.1 30 = .ok (.iload_n 3, 1) := by decide +kernel
theorem d_X6_sheet_31 : decode m_X6_sheet.2.1 31 = .ok (.ifCond .ge 9, 3) := by decide +kernel
theorem d_X6_sheet_34 : decode m_X6_sheet.2.1 34 = .ok (.aload_n 0, 1) := by decide +kernel
theorem d_X6_sheet_35 : decode m_X6_sheet.2.1 35 = .ok (.iconst 4, 1) := by decide +kernel
theorem d_X6_sheet_36 : decode m_X6_sheet.2.1 36 = .ok (.invokevirtual 82, 3) := by decide +kernel
theorem d_X6_sheet_39 : decode m_X6_sheet.2.1 39 = .ok (.ireturn, 1) := by decide +kernel
theorem d_X6_sheet_40 : decode m_X6_sheet.2.1 40 = .ok (.aload_n 0, 1) := by decide +kernel
theorem d_X6_sheet_41 : decode m_X6_sheet.2.1 41 = .ok (.getfield 9, 3) := by decide +kernel
theorem d_X6_sheet_44 : decode m_X6_sheet.2.1 44 = .ok (.iload_n 1, 1) := by decide +kernel
theorem d_X6_sheet_45 : decode m_X6_sheet.2.1 45 = .ok (.iload_n 2, 1) := by decide +kernel
theorem d_X6_sheet_46 : decode m_X6_sheet.2.1 46 = .ok (.iastore, 1) := by decide +kernel
theorem d_X6_sheet_47 : decode m_X6_sheet.2.1 47 = .ok (.aload_n 0, 1) := by decide +kernel
theorem d_X6_sheet_48 : decode m_X6_sheet.2.1 48 = .ok (.getfield 13, 3) := by decide +kernel
theorem d_X6_sheet_51 : decode m_X6_sheet.2.1 51 = .ok (.iload_n 1, 1) := by decide +kernel
theorem d_X6_sheet_52 : decode m_X6_sheet.2.1 52 = .ok (.iload_n 3, 1) := by decide +kernel
theorem d_X6_sheet_53 : decode m_X6_sheet.2.1 53 = .ok (.iastore, 1) := by decide +kernel
theorem d_X6_sheet_54 : decode m_X6_sheet.2.1 54 = .ok (.iconst 0, 1) := by decide +kernel
theorem d_X6_sheet_55 : decode m_X6_sheet.2.1 55 = .ok (.istore 4, 2) := by decide +kernel
theorem d_X6_sheet_57 : decode m_X6_sheet.2.1 57 = .ok (.iload 4, 2) := by decide +kernel
theorem d_X6_sheet_59 : decode m_X6_sheet.2.1 59 = .ok (.bipush 60, 2) := by decide +kernel
theorem d_X6_sheet_61 : decode m_X6_sheet.2.1 61 = .ok (.if_icmp .ge 22, 3) := by decide +kernel
theorem d_X6_sheet_64 : decode m_X6_sheet.2.1 64 = .ok (.aload_n 0, 1) := by decide +kernel
theorem d_X6_sheet_65 : decode m_X6_sheet.2.1 65 = .ok (.getfield 16, 3) := by decide +kernel
theorem d_X6_sheet_68 : decode m_X6_sheet.2.1 68 = .ok (.bipush 60, 2) := by decide +kernel
theorem d_X6_sheet_70 : decode m_X6_sheet.2.1 70 = .ok (.iload_n 1, 1) := by decide +kernel
theorem d_X6_sheet_71 : decode m_X6_sheet.2.1 71 = .ok (.imul, 1) := by decide +kernel
theorem d_X6_sheet_72 : decode m_X6_sheet.2.1 72 = .ok (.iload 4, 2) := by decide +kernel
theorem d_X6_sheet_74 : decode m_X6_sheet.2.1 74 = .ok (.iadd, 1) := by decide +kernel
theorem d_X6_sheet_75 : decode m_X6_sheet.2.1 75 = .ok (.iconst 0, 1) := by decide +kernel
theorem d_X6_sheet_76 : decode m_X6_sheet.2.1 76 = .ok (.iastore, 1) := by decide +kernel
theorem d_X6_sheet_77 : decode m_X6_sheet.2.1 77 = .ok (.iinc 4 1, 3) := by decide +kernel
theorem d_X6_sheet_80 : decode m_X6_sheet.2.1 80 = .ok (.goto (-23), 3) := by decide +kernel
theorem d_X6_sheet_83 : decode m_X6_sheet.2.1 83 = .ok (.iconst 1, 1) := by decide +kernel
theorem d_X6_sheet_84 : decode m_X6_sheet.2.1 84 = .ok (.ireturn, 1) := by decide +kernel
theorem d_X6_lose_0 : decode m_X6_lose.2.1 0 = .ok (.iload_n 1, 1) := by decide +kernel
theorem d_X6_lose_1 : decode m_X6_lose.2.1 1 = .ok (.invokestatic 71, 3) := by decide +kernel
theorem d_X6_lose_4 : decode m_X6_lose.2.1 4 = .ok (.ifCond .ne 5, 3) := by decide +kernel
theorem d_X6_lose_7 : decode m_X6_lose.2.1 7 = .ok (.iconst (-1), 1) := by decide +kernel
theorem d_X6_lose_8 : decode m_X6_lose.2.1 8 = .ok (.ireturn, 1) := by decide +kernel
theorem d_X6_lose_9 : decode m_X6_lose.2.1 9 = .ok (.aload_n 0, 1) := by decide +kernel
theorem d_X6_lose_10 : decode m_X6_lose.2.1 10 = .ok (.getfield 9, 3) := by decide +kernel
theorem d_X6_lose_13 : decode m_X6_lose.2.1 13 = .ok (.iload_n 1, 1) := by decide +kernel
theorem d_X6_lose_14 : decode m_X6_lose.2.1 14 = .ok (.iaload, 1) := by decide +kernel
theorem d_X6_lose_15 : decode m_X6_lose.2.1 15 = .ok (.bipush (-9), 2) := by decide +kernel
theorem d_X6_lose_17 : decode m_X6_lose.2.1 17 = .ok (.if_icmp .ne 7, 3) := by decide +kernel
theorem d_X6_lose_20 : decode m_X6_lose.2.1 20 = .ok (.iconst 0, 1) := by decide +kernel
theorem d_X6_lose_21 : decode m_X6_lose.2.1 21 = .ok (.goto 4, 3) := by decide +kernel
theorem d_X6_lose_24 : decode m_X6_lose.2.1 24 = .ok (.iconst 1, 1) := by decide +kernel
theorem d_X6_lose_25 : decode m_X6_lose.2.1 25 = .ok (.istore_n 2, 1) := by decide +kernel
theorem d_X6_lose_26 : decode m_X6_lose.2.1 26 = .ok (.aload_n 0, 1) := by decide +kernel
theorem d_X6_lose_27 : decode m_X6_lose.2.1 27 = .ok (.getfield 9, 3) := by decide +kernel
theorem d_X6_lose_30 : decode m_X6_lose.2.1 30 = .ok (.iload_n 1, 1) := by decide +kernel
theorem d_X6_lose_31 : decode m_X6_lose.2.1 31 = .ok (.bipush (-9), 2) := by decide +kernel
theorem d_X6_lose_33 : decode m_X6_lose.2.1 33 = .ok (.iastore, 1) := by decide +kernel
theorem d_X6_lose_34 : decode m_X6_lose.2.1 34 = .ok (.iload_n 2, 1) := by decide +kernel
theorem d_X6_lose_35 : decode m_X6_lose.2.1 35 = .ok (.ireturn, 1) := by decide +kernel
theorem d_X6_put_0 : decode m_X6_put.2.1 0 = .ok (.aload_n 0, 1) := by decide +kernel
theorem d_X6_put_1 : decode m_X6_put.2.1 1 = .ok (.iconst 0, 1) := by decide +kernel
theorem d_X6_put_2 : decode m_X6_put.2.1 2 = .ok (.putfield 52, 3) := by decide +kernel
theorem d_X6_put_5 : decode m_X6_put.2.1 5 = .ok (.iload_n 1, 1) := by decide +kernel
theorem d_X6_put_6 : decode m_X6_put.2.1 6 = .ok (.invokestatic 71, 3) := by decide +kernel
theorem d_X6_put_9 : decode m_X6_put.2.1 9 = .ok (.ifCond .ne 5, 3) := by decide +kernel
theorem d_X6_put_12 : decode m_X6_put.2.1 12 = .ok (.iconst (-1), 1) := by decide +kernel
theorem d_X6_put_13 : decode m_X6_put.2.1 13 = .ok (.ireturn, 1) := by decide +kernel
theorem d_X6_put_14 : decode m_X6_put.2.1 14 = .ok (.aload_n 0, 1) := by decide +kernel
theorem d_X6_put_15 : decode m_X6_put.2.1 15 = .ok (.getfield 9, 3) := by decide +kernel
theorem d_X6_put_18 : decode m_X6_put.2.1 18 = .ok (.iload_n 1, 1) := by decide +kernel
theorem d_X6_put_19 : decode m_X6_put.2.1 19 = .ok (.iaload, 1) := by decide +kernel
theorem d_X6_put_20 : decode m_X6_put.2.1 20 = .ok (.bipush (-9), 2) := by decide +kernel
theorem d_X6_put_22 : decode m_X6_put.2.1 22 = .ok (.if_icmp .ne 9, 3) := by decide +kernel
theorem d_X6_put_25 : decode m_X6_put.2.1 25 = .ok (.aload_n 0, 1) := by decide +kernel
theorem d_X6_put_26 : decode m_X6_put.2.1 26 = .ok (.iconst 1, 1) := by decide +kernel
theorem d_X6_put_27 : decode m_X6_put.2.1 27 = .ok (.invokevirtual 82, 3) := by decide +kernel
theorem d_X6_put_30 : decode m_X6_put.2.1 30 = .ok (.ireturn, 1) := by decide +kernel
theorem d_X6_put_31 : decode m_X6_put.2.1 31 = .ok (.iload_n 2, 1) := by decide +kernel
theorem d_X6_put_32 : decode m_X6_put.2.1 32 = .ok (.iconst 0, 1) := by decide +kernel
theorem d_X6_put_33 : decode m_X6_put.2.1 33 = .ok (.aload_n 0, 1) := by decide +kernel
theorem d_X6_put_34 : decode m_X6_put.2.1 34 = .ok (.getfield 13, 3) := by decide +kernel
theorem d_X6_put_37 : decode m_X6_put.2.1 37 = .ok (.iload_n 1, 1) := by decide +kernel
theorem d_X6_put_38 : decode m_X6_put.2.1 38 = .ok (.iaload, 1) := by decide +kernel
theorem d_X6_put_39 : decode m_X6_put.2.1 39 = .ok (.iconst 1, 1) := by decide +kernel
theorem d_X6_put_40 : decode m_X6_put.2.1 40 = .ok (.isub, 1) := by decide +kernel
theorem d_X6_put_41 : decode m_X6_put.2.1 41 = .ok (.invokestatic 58, 3) := by decide +kernel
theorem d_X6_put_44 : decode m_X6_put.2.1 44 = .ok (.ifCond .ne 9, 3) := by decide +kernel
theorem d_X6_put_47 : decode m_X6_put.2.1 47 = .ok (.aload_n 0, 1) := by decide +kernel
theorem d_X6_put_48 : decode m_X6_put.2.1 48 = .ok (.iconst 3, 1) := by decide +kernel
theorem d_X6_put_49 : decode m_X6_put.2.1 49 = .ok (.invokevirtual 82, 3) := by decide +kernel
theorem d_X6_put_52 : decode m_X6_put.2.1 52 = .ok (.ireturn, 1) := by decide +kernel
theorem d_X6_put_53 : decode m_X6_put.2.1 53 = .ok (.aload_n 0, 1) := by decide +kernel
theorem d_X6_put_54 : decode m_X6_put.2.1 54 = .ok (.getfield 16, 3) := by decide +kernel
theorem d_X6_put_57 : decode m_X6_put.2.1 57 = .ok (.bipush 60, 2) := by decide +kernel
theorem d_X6_put_59 : decode m_X6_put.2.1 59 = .ok (.iload_n 1, 1) := by decide +kernel
theorem d_X6_put_60 : decode m_X6_put.2.1 60 = .ok (.imul, 1) := by decide +kernel
theorem d_X6_put_61 : decode m_X6_put.2.1 61 = .ok (.iload_n 2, 1) := by decide +kernel
theorem d_X6_put_62 : decode m_X6_put.2.1 62 = .ok (.iadd, 1) := by decide +kernel
theorem d_X6_put_63 : decode m_X6_put.2.1 63 = .ok (.aload_n 0, 1) := by decide +kernel
theorem d_X6_put_64 : decode m_X6_put.2.1 64 = .ok (.getfield 9, 3) := by decide +kernel
theorem d_X6_put_67 : decode m_X6_put.2.1 67 = .ok (.iload_n 1, 1) := by decide +kernel
theorem d_X6_put_68 : decode m_X6_put.2.1 68 = .ok (.iaload, 1) := by decide +kernel
theorem d_X6_put_69 : decode m_X6_put.2.1 69 = .ok (.ifCond .ne 8, 3) := by decide +kernel
theorem d_X6_put_72 : decode m_X6_put.2.1 72 = .ok (.iload_n 3, 1) := by decide +kernel
theorem d_X6_put_73 : decode m_X6_put.2.1 73 = .ok (.i2b, 1) := by decide +kernel
theorem d_X6_put_74 : decode m_X6_put.2.1 74 = .ok (.goto 19, 3) := by decide +kernel
theorem d_X6_put_77 : decode m_X6_put.2.1 77 = .ok (.aload_n 0, 1) := by decide +kernel
theorem d_X6_put_78 : decode m_X6_put.2.1 78 = .ok (.getfield 9, 3) := by decide +kernel
theorem d_X6_put_81 : decode m_X6_put.2.1 81 = .ok (.iload_n 1, 1) := by decide +kernel
theorem d_X6_put_82 : decode m_X6_put.2.1 82 = .ok (.iaload, 1) := by decide +kernel
theorem d_X6_put_83 : decode m_X6_put.2.1 83 = .ok (.iconst 1, 1) := by decide +kernel
theorem d_X6_put_84 : decode m_X6_put.2.1 84 = .ok (.if_icmp .ne 8, 3) := by decide +kernel
theorem d_X6_put_87 : decode m_X6_put.2.1 87 = .ok (.iload_n 3, 1) := by decide +kernel
theorem d_X6_put_88 : decode m_X6_put.2.1 88 = .ok (.i2s, 1) := by decide +kernel
theorem d_X6_put_89 : decode m_X6_put.2.1 89 = .ok (.goto 4, 3) := by decide +kernel
theorem d_X6_put_92 : decode m_X6_put.2.1 92 = .ok (.iload_n 3, 1) := by decide +kernel
theorem d_X6_put_93 : decode m_X6_put.2.1 93 = .ok (.iastore, 1) := by decide +kernel
theorem d_X6_put_94 : decode m_X6_put.2.1 94 = .ok (.iconst 1, 1) := by decide +kernel
theorem d_X6_put_95 : decode m_X6_put.2.1 95 = .ok (.ireturn, 1) := by decide +kernel
theorem d_X6_cell_0 : decode m_X6_cell.2.1 0 = .ok (.aload_n 0, 1) := by decide +kernel
theorem d_X6_cell_1 : decode m_X6_cell.2.1 1 = .ok (.iconst 0, 1) := by decide +kernel
theorem d_X6_cell_2 : decode m_X6_cell.2.1 2 = .ok (.putfield 52, 3) := by decide +kernel
theorem d_X6_cell_5 : decode m_X6_cell.2.1 5 = .ok (.iload_n 1, 1) := by decide +kernel
theorem d_X6_cell_6 : decode m_X6_cell.2.1 6 = .ok (.invokestatic 71, 3) := by decide +kernel
theorem d_X6_cell_9 : decode m_X6_cell.2.1 9 = .ok (.ifCond .eq 10, 3) := by decide +kernel
theorem d_X6_cell_12 : decode m_X6_cell.2.1 12 = .ok (.iload_n 3, 1) := by decide +kernel
theorem d_X6_cell_13 : decode m_X6_cell.2.1 13 = .ok (.invokestatic 75, 3) := by decide +kernel
theorem d_X6_cell_16 : decode m_X6_cell.2.1 16 = .ok (.ifCond .ne 7, 3) := by decide +kernel
theorem d_X6_cell_19 : decode m_X6_cell.2.1 19 = .ok (.ldc2_w 56, 3) := by decide +kernel
theorem d_X6_cell_22 : decode m_X6_cell.2.1 22 = .ok (.lreturn, 1) := by decide +kernel
theorem d_X6_cell_23 : decode m_X6_cell.2.1 23 = .ok (.aload_n 0, 1) := by decide +kernel
theorem d_X6_cell_24 : decode m_X6_cell.2.1 24 = .ok (.getfield 9, 3) := by decide +kernel
theorem d_X6_cell_27 : decode m_X6_cell.2.1 27 = .ok (.iload_n 1, 1) := by decide +kernel
theorem d_X6_cell_28 : decode m_X6_cell.2.1 28 = .ok (.iaload, 1) := by decide +kernel
theorem d_X6_cell_29 : decode m_X6_cell.2.1 29 = .ok (.bipush (-9), 2) := by decide +kernel
theorem d_X6_cell_31 : decode m_X6_cell.2.1 31 = .ok (.if_icmp .eq 19, 3) := by decide +kernel
theorem d_X6_cell_34 : decode m_X6_cell.2.1 34 = .ok (.aload_n 0, 1) := by decide +kernel
theorem d_X6_cell_35 : decode m_X6_cell.2.1 35 = .ok (.getfield 9, 3) := by decide +kernel
theorem d_X6_cell_38 : decode m_X6_cell.2.1 38 = .ok (.iload_n 1, 1) := by decide +kernel
theorem d_X6_cell_39 : decode m_X6_cell.2.1 39 = .ok (.iaload, 1) := by decide +kernel
theorem d_X6_cell_40 : decode m_X6_cell.2.1 40 = .ok (.iload_n 3, 1) := by decide +kernel
theorem d_X6_cell_41 : decode m_X6_cell.2.1 41 = .ok (.if_icmp .eq 9, 3) := by decide +kernel
theorem d_X6_cell_44 : decode m_X6_cell.2.1 44 = .ok (.aload_n 0, 1) := by decide +kernel
theorem d_X6_cell_45 : decode m_X6_cell.2.1 45 = .ok (.iconst 2, 1) := by decide +kernel
theorem d_X6_cell_46 : decode m_X6_cell.2.1 46 = .ok (.invokevirtual 205, 3) := by decide +kernel
theorem d_X6_cell_49 : decode m_X6_cell.2.1 49 = .ok (.lreturn, 1) := by decide +kernel
theorem d_X6_cell_50 : decode m_X6_cell.2.1 50 = .ok (.aload_n 0, 1) := by decide +kernel
theorem d_X6_cell_51 : decode m_X6_cell.2.1 51 = .ok (.getfield 9, 3) := by decide +kernel
theorem d_X6_cell_54 : decode m_X6_cell.2.1 54 = .ok (.iload_n 1, 1) := by decide +kernel
theorem d_X6_cell_55 : decode m_X6_cell.2.1 55 = .ok (.iaload, 1) := by decide +kernel
theorem d_X6_cell_56 : decode m_X6_cell.2.1 56 = .ok (.bipush (-9), 2) := by decide +kernel
theorem d_X6_cell_58 : decode m_X6_cell.2.1 58 = .ok (.if_icmp .ne 9, 3) := by decide +kernel
theorem d_X6_cell_61 : decode m_X6_cell.2.1 61 = .ok (.aload_n 0, 1) := by decide +kernel
theorem d_X6_cell_62 : decode m_X6_cell.2.1 62 = .ok (.iconst 1, 1) := by decide +kernel
theorem d_X6_cell_63 : decode m_X6_cell.2.1 63 = .ok (.invokevirtual 205, 3) := by decide +kernel
theorem d_X6_cell_66 : decode m_X6_cell.2.1 66 = .ok (.lreturn, 1) := by decide +kernel
theorem d_X6_cell_67 : decode m_X6_cell.2.1 67 = .ok (.iload_n 2, 1) := by decide +kernel
theorem d_X6_cell_68 : decode m_X6_cell.2.1 68 = .ok (.iconst 0, 1) := by decide +kernel
theorem d_X6_cell_69 : decode m_X6_cell.2.1 69 = .ok (.aload_n 0, 1) := by decide +kernel
theorem d_X6_cell_70 : decode m_X6_cell.2.1 70 = .ok (.getfield 13, 3) := by decide +kernel
theorem d_X6_cell_73 : decode m_X6_cell.2.1 73 = .ok (.iload_n 1, 1) := by decide +kernel
theorem d_X6_cell_74 : decode m_X6_cell.2.1 74 = .ok (.iaload, 1) := by decide +kernel
theorem d_X6_cell_75 : decode m_X6_cell.2.1 75 = .ok (.iconst 1, 1) := by decide +kernel
theorem d_X6_cell_76 : decode m_X6_cell.2.1 76 = .ok (.isub, 1) := by decide +kernel
theorem d_X6_cell_77 : decode m_X6_cell.2.1 77 = .ok (.invokestatic 58, 3) := by decide +kernel
theorem d_X6_cell_80 : decode m_X6_cell.2.1 80 = .ok (.ifCond .ne 9, 3) := by decide +kernel
theorem d_X6_cell_83 : decode m_X6_cell.2.1 83 = .ok (.aload_n 0, 1) := by decide +kernel
theorem d_X6_cell_84 : decode m_X6_cell.2.1 84 = .ok (.iconst 3, 1) := by decide +kernel
theorem d_X6_cell_85 : decode m_X6_cell.2.1 85 = .ok (.invokevirtual 205, 3) := by decide +kernel
theorem d_X6_cell_88 : decode m_X6_cell.2.1 88 = .ok (.lreturn, 1) := by decide +kernel
theorem d_X6_cell_89 : decode m_X6_cell.2.1 89 = .ok (.aload_n 0, 1) := by decide +kernel
theorem d_X6_cell_90 : decode m_X6_cell.2.1 90 = .ok (.getfield 16, 3) := by decide +kernel
theorem d_X6_cell_93 : decode m_X6_cell.2.1 93 = .ok (.bipush 60, 2) := by decide +kernel
theorem d_X6_cell_95 : decode m_X6_cell.2.1 95 = .ok (.iload_n 1, 1) := by decide +kernel
theorem d_X6_cell_96 : decode m_X6_cell.2.1 96 = .ok (.imul, 1) := by decide +kernel
theorem d_X6_cell_97 : decode m_X6_cell.2.1 97 = .ok (.iload_n 2, 1) := by decide +kernel
theorem d_X6_cell_98 : decode m_X6_cell.2.1 98 = .ok (.iadd, 1) := by decide +kernel
theorem d_X6_cell_99 : decode m_X6_cell.2.1 99 = .ok (.iaload, 1) := by decide +kernel
theorem d_X6_cell_100 : decode m_X6_cell.2.1 100 = .ok (.i2l, 1) := by decide +kernel
theorem d_X6_cell_101 : decode m_X6_cell.2.1 101 = .ok (.lreturn, 1) := by decide +kernel
theorem d_X6_copy_0 : decode m_X6_copy.2.1 0 = .ok (.aload_n 0, 1) := by decide +kernel
theorem d_X6_copy_1 : decode m_X6_copy.2.1 1 = .ok (.iconst 0, 1) := by decide +kernel
theorem d_X6_copy_2 : decode m_X6_copy.2.1 2 = .ok (.putfield 52, 3) := by decide +kernel
theorem d_X6_copy_5 : decode m_X6_copy.2.1 5 = .ok (.iload_n 1, 1) := by decide +kernel
theorem d_X6_copy_6 : decode m_X6_copy.2.1 6 = .ok (.invokestatic 71, 3) := by decide +kernel
theorem d_X6_copy_9 : decode m_X6_copy.2.1 9 = .ok (.ifCond .eq 10, 3) := by decide +kernel
theorem d_X6_copy_12 : decode m_X6_copy.2.1 12 = .ok (.iload_n 3, 1) := by decide +kernel
theorem d_X6_copy_13 : decode m_X6_copy.2.1 13 = .ok (.invokestatic 71, 3) := by decide +kernel
theorem d_X6_copy_16 : decode m_X6_copy.2.1 16 = .ok (.ifCond .ne 5, 3) := by decide +kernel
theorem d_X6_copy_19 : decode m_X6_copy.2.1 19 = .ok (.iconst (-1), 1) := by decide +kernel
theorem d_X6_copy_20 : decode m_X6_copy.2.1 20 = .ok (.ireturn, 1) := by decide +kernel
theorem d_X6_copy_21 : decode m_X6_copy.2.1 21 = .ok (.aload_n 0, 1) := by decide +kernel
theorem d_X6_copy_22 : decode m_X6_copy.2.1 22 = .ok (.getfield 9, 3) := by decide +kernel
theorem d_X6_copy_25 : decode m_X6_copy.2.1 25 = .ok (.iload_n 1, 1) := by decide +kernel
theorem d_X6_copy_26 : decode m_X6_copy.2.1 26 = .ok (.iaload, 1) := by decide +kernel
theorem d_X6_copy_27 : decode m_X6_copy.2.1 27 = .ok (.bipush (-9), 2) := by decide +kernel
theorem d_X6_copy_29 : decode m_X6_copy.2.1 29 = .ok (.if_icmp .eq 14, 3) := by decide +kernel
theorem d_X6_copy_32 : decode m_X6_copy.2.1 32 = .ok (.aload_n 0, 1) := by decide +kernel
theorem d_X6_copy_33 : decode m_X6_copy.2.1 33 = .ok (.getfield 9, 3) := by decide +kernel
theorem d_X6_copy_36 : decode m_X6_copy.2.1 36 = .ok (.iload_n 3, 1) := by decide +kernel
theorem d_X6_copy_37 : decode m_X6_copy.2.1 37 = .ok (.iaload, 1) := by decide +kernel
theorem d_X6_copy_38 : decode m_X6_copy.2.1 38 = .ok (.bipush (-9), 2) := by decide +kernel
theorem d_X6_copy_40 : decode m_X6_copy.2.1 40 = .ok (.if_icmp .ne 9, 3) := by decide +kernel
theorem d_X6_copy_43 : decode m_X6_copy.2.1 43 = .ok (.aload_n 0, 1) := by decide +kernel
theorem d_X6_copy_44 : decode m_X6_copy.2.1 44 = .ok (.iconst 1, 1) := by decide +kernel
theorem d_X6_copy_45 : decode m_X6_copy.2.1 45 = .ok (.invokevirtual 82, 3) := by decide +kernel
theorem d_X6_copy_48 : decode m_X6_copy.2.1 48 = .ok (.ireturn, 1) := by decide +kernel
theorem d_X6_copy_49 : decode m_X6_copy.2.1 49 = .ok (.aload_n 0, 1) := by decide +kernel
theorem d_X6_copy_50 : decode m_X6_copy.2.1 50 = .ok (.getfield 9, 3) := by decide +kernel
theorem d_X6_copy_53 : decode m_X6_copy.2.1 53 = .ok (.iload_n 1, 1) := by decide +kernel
theorem d_X6_copy_54 : decode m_X6_copy.2.1 54 = .ok (.iaload, 1) := by decide +kernel
theorem d_X6_copy_55 : decode m_X6_copy.2.1 55 = .ok (.aload_n 0, 1) := by decide +kernel
theorem d_X6_copy_56 : decode m_X6_copy.2.1 56 = .ok (.getfield 9, 3) := by decide +kernel
theorem d_X6_copy_59 : decode m_X6_copy.2.1 59 = .ok (.iload_n 3, 1) := by decide +kernel
theorem d_X6_copy_60 : decode m_X6_copy.2.1 60 = .ok (.iaload, 1) := by decide +kernel
theorem d_X6_copy_61 : decode m_X6_copy.2.1 61 = .ok (.if_icmp .eq 9, 3) := by decide +kernel
theorem d_X6_copy_64 : decode m_X6_copy.2.1 64 = .ok (.aload_n 0, 1) := by decide +kernel
theorem d_X6_copy_65 : decode m_X6_copy.2.1 65 = .ok (.iconst 2, 1) := by decide +kernel
theorem d_X6_copy_66 : decode m_X6_copy.2.1 66 = .ok (.invokevirtual 82, 3) := by decide +kernel
theorem d_X6_copy_69 : decode m_X6_copy.2.1 69 = .ok (.ireturn, 1) := by decide +kernel
theorem d_X6_copy_70 : decode m_X6_copy.2.1 70 = .ok (.iload_n 2, 1) := by decide +kernel
theorem d_X6_copy_71 : decode m_X6_copy.2.1 71 = .ok (.ifCond .lt 38, 3) := by decide +kernel
theorem d_X6_copy_74 : decode m_X6_copy.2.1 74 = .ok (.iload 4, 2) := by decide +kernel
theorem d_X6_copy_76 : decode m_X6_copy.2.1 76 = .ok (.ifCond .lt 33, 3) := by decide +kernel
theorem d_X6_copy_79 : decode m_X6_copy.2.1 79 = .ok (.iload 5, 2) := by decide +kernel
theorem d_X6_copy_81 : decode m_X6_copy.2.1 81 = .ok (.ifCond .lt 28, 3) := by decide +kernel
theorem d_X6_copy_84 : decode m_X6_copy.2.1 84 = .ok (.iload_n 2, 1) := by decide +kernel
theorem d_X6_copy_85 : decode m_X6_copy.2.1 85 = .ok (.aload_n 0, 1) := by decide +kernel
theorem d_X6_copy_86 : decode m_X6_copy.2.1 86 = .ok (.getfield 13, 3) := by decide +kernel
theorem d_X6_copy_89 : decode m_X6_copy.2.1 89 = .ok (.iload_n 1, 1) := by decide +kernel
theorem d_X6_copy_90 : decode m_X6_copy.2.1 90 = .ok (.iaload, 1) := by decide +kernel
theorem d_X6_copy_91 : decode m_X6_copy.2.1 91 = .ok (.if_icmp .gt 18, 3) := by decide +kernel
theorem d_X6_copy_94 : decode m_X6_copy.2.1 94 = .ok (.iload 4, 2) := by decide +kernel
theorem d_X6_copy_96 : decode m_X6_copy.2.1 96 = .ok (.aload_n 0, 1) := by decide +kernel
theorem d_X6_copy_97 : decode m_X6_copy.2.1 97 = .ok (.getfield 13, 3) := by decide +kernel
theorem d_X6_copy_100 : decode m_X6_copy.2.1 100 = .ok (.iload_n 3, 1) := by decide +kernel
theorem d_X6_copy_101 : decode m_X6_copy.2.1 101 = .ok (.iaload, 1) := by decide +kernel
theorem d_X6_copy_102 : decode m_X6_copy.2.1 102 = .ok (.if_icmp .gt 7, 3) := by decide +kernel
theorem d_X6_copy_105 : decode m_X6_copy.2.1 105 = .ok (.iconst 1, 1) := by decide +kernel
theorem d_X6_copy_106 : decode m_X6_copy.2.1 106 = .ok (.goto 4, 3) := by decide +kernel
theorem d_X6_copy_109 : decode m_X6_copy.2.1 109 = .ok (.iconst 0, 1) := by decide +kernel
theorem d_X6_copy_110 : decode m_X6_copy.2.1 110 = .ok (.istore 6, 2) := by decide +kernel
theorem d_X6_copy_112 : decode m_X6_copy.2.1 112 = .ok (.iload 6, 2) := by decide +kernel
theorem d_X6_copy_114 : decode m_X6_copy.2.1 114 = .ok (.ifCond .eq 30, 3) := by decide +kernel
theorem d_X6_copy_117 : decode m_X6_copy.2.1 117 = .ok (.iload 5, 2) := by decide +kernel
theorem d_X6_copy_119 : decode m_X6_copy.2.1 119 = .ok (.aload_n 0, 1) := by decide +kernel
theorem d_X6_copy_120 : decode m_X6_copy.2.1 120 = .ok (.getfield 13, 3) := by decide +kernel
theorem d_X6_copy_123 : decode m_X6_copy.2.1 123 = .ok (.iload_n 1, 1) := by decide +kernel
theorem d_X6_copy_124 : decode m_X6_copy.2.1 124 = .ok (.iaload, 1) := by decide +kernel
theorem d_X6_copy_125 : decode m_X6_copy.2.1 125 = .ok (.iload_n 2, 1) := by decide +kernel
theorem d_X6_copy_126 : decode m_X6_copy.2.1 126 = .ok (.isub, 1) := by decide +kernel
theorem d_X6_copy_127 : decode m_X6_copy.2.1 127 = .ok (.if_icmp .gt 17, 3) := by decide +kernel
theorem d_X6_copy_130 : decode m_X6_copy.2.1 130 = .ok (.iload 5, 2) := by decide +kernel
theorem d_X6_copy_132 : decode m_X6_copy.2.1 132 = .ok (.aload_n 0, 1) := by decide +kernel
theorem d_X6_copy_133 : decode m_X6_copy.2.1 133 = .ok (.getfield 13, 3) := by decide +kernel
theorem d_X6_copy_136 : decode m_X6_copy.2.1 136 = .ok (.iload_n 3, 1) := by decide +kernel
theorem d_X6_copy_137 : decode m_X6_copy.2.1 137 = .ok (.iaload, 1) := by decide +kernel
theorem d_X6_copy_138 : decode m_X6_copy.2.1 138 = .ok (.iload 4, 2) := by decide +kernel
theorem d_X6_copy_140 : decode m_X6_copy.2.1 140 = .ok (.isub, 1) := by decide +kernel
theorem d_X6_copy_141 : decode m_X6_copy.2.1 141 = .ok (.if_icmp .le 9, 3) := by decide +kernel
theorem d_X6_copy_144 : decode m_X6_copy.2.1 144 = .ok (.aload_n 0, 1) := by decide +kernel
theorem d_X6_copy_145 : decode m_X6_copy.2.1 145 = .ok (.iconst 3, 1) := by decide +kernel
theorem d_X6_copy_146 : decode m_X6_copy.2.1 146 = .ok (.invokevirtual 82, 3) := by decide +kernel
theorem d_X6_copy_149 : decode m_X6_copy.2.1 149 = .ok (.ireturn, 1) := by decide +kernel
theorem d_X6_copy_150 : decode m_X6_copy.2.1 150 = .ok (.iload_n 2, 1) := by decide +kernel
theorem d_X6_copy_151 : decode m_X6_copy.2.1 151 = .ok (.iload 4, 2) := by decide +kernel
theorem d_X6_copy_153 : decode m_X6_copy.2.1 153 = .ok (.if_icmp .ge 7, 3) := by decide +kernel
theorem d_X6_copy_156 : decode m_X6_copy.2.1 156 = .ok (.iconst 1, 1) := by decide +kernel
theorem d_X6_copy_157 : decode m_X6_copy.2.1 157 = .ok (.goto 4, 3) := by decide +kernel
theorem d_X6_copy_160 : decode m_X6_copy.2.1 160 = .ok (.iconst 0, 1) := by decide +kernel
theorem d_X6_copy_161 : decode m_X6_copy.2.1 161 = .ok (.istore 7, 2) := by decide +kernel
theorem d_X6_copy_163 : decode m_X6_copy.2.1 163 = .ok (.iconst 0, 1) := by decide +kernel
theorem d_X6_copy_164 : decode m_X6_copy.2.1 164 = .ok (.istore 8, 2) := by decide +kernel
theorem d_X6_copy_166 : decode m_X6_copy.2.1 166 = .ok (.iload 8, 2) := by decide +kernel
theorem d_X6_copy_168 : decode m_X6_copy.2.1 168 = .ok (.iload 5, 2) := by decide +kernel
theorem d_X6_copy_170 : decode m_X6_copy.2.1 170 = .ok (.if_icmp .ge 57, 3) := by decide +kernel
theorem d_X6_copy_173 : decode m_X6_copy.2.1 173 = .ok (.iload 7, 2) := by decide +kernel
theorem d_X6_copy_175 : decode m_X6_copy.2.1 175 = .ok (.ifCond .eq 13, 3) := by decide +kernel
theorem d_X6_copy_178 : decode m_X6_copy.2.1 178 = .ok (.iload 5, 2) := by decide +kernel
theorem d_X6_copy_180 : decode m_X6_copy.2.1 180 = .ok (.iconst 1, 1) := by decide +kernel
theorem d_X6_copy_181 : decode m_X6_copy.2.1 181 = .ok (.isub, 1) := by decide +kernel
theorem d_X6_copy_182 : decode m_X6_copy.2.1 182 = .ok (.iload 8, 2) := by decide +kernel
theorem d_X6_copy_184 : decode m_X6_copy.2.1 184 = .ok (.isub, 1) := by decide +kernel
theorem d_X6_copy_185 : decode m_X6_copy.2.1 185 = .ok (.goto 5, 3) := by decide +kernel
theorem d_X6_copy_188 : decode m_X6_copy.2.1 188 = .ok (.iload 8, 2) := by decide +kernel
theorem d_X6_copy_190 : decode m_X6_copy.2.1 190 = .ok (.istore 9, 2) := by decide +kernel
theorem d_X6_copy_192 : decode m_X6_copy.2.1 192 = .ok (.aload_n 0, 1) := by decide +kernel
theorem d_X6_copy_193 : decode m_X6_copy.2.1 193 = .ok (.getfield 16, 3) := by decide +kernel
theorem d_X6_copy_196 : decode m_X6_copy.2.1 196 = .ok (.bipush 60, 2) := by decide +kernel
theorem d_X6_copy_198 : decode m_X6_copy.2.1 198 = .ok (.iload_n 3, 1) := by decide +kernel
theorem d_X6_copy_199 : decode m_X6_copy.2.1 199 = .ok (.imul, 1) := by decide +kernel
theorem d_X6_copy_200 : decode m_X6_copy.2.1 200 = .ok (.iload 4, 2) := by decide +kernel
theorem d_X6_copy_202 : decode m_X6_copy.2.1 202 = .ok (.iadd, 1) := by decide +kernel
theorem d_X6_copy_203 : decode m_X6_copy.2.1 203 = .ok (.iload 9, 2) := by decide +kernel
theorem d_X6_copy_205 : decode m_X6_copy.2.1 205 = .ok (.iadd, 1) := by decide +kernel
theorem d_X6_copy_206 : decode m_X6_copy.2.1 206 = .ok (.aload_n 0, 1) := by decide +kernel
theorem d_X6_copy_207 : decode m_X6_copy.2.1 207 = .ok (.getfield 16, 3) := by decide +kernel
theorem d_X6_copy_210 : decode m_X6_copy.2.1 210 = .ok (.bipush 60, 2) := by decide +kernel
theorem d_X6_copy_212 : decode m_X6_copy.2.1 212 = .ok (.iload_n 1, 1) := by decide +kernel
theorem d_X6_copy_213 : decode m_X6_copy.2.1 213 = .ok (.imul, 1) := by decide +kernel
theorem d_X6_copy_214 : decode m_X6_copy.2.1 214 = .ok (.iload_n 2, 1) := by decide +kernel
theorem d_X6_copy_215 : decode m_X6_copy.2.1 215 = .ok (.iadd, 1) := by decide +kernel
theorem d_X6_copy_216 : decode m_X6_copy.2.1 216 = .ok (.iload 9, 2) := by decide +kernel
theorem d_X6_copy_218 : decode m_X6_copy.2.1 218 = .ok (.iadd, 1) := by decide +kernel
theorem d_X6_copy_219 : decode m_X6_copy.2.1 219 = .ok (.iaload, 1) := by decide +kernel
theorem d_X6_copy_220 : decode m_X6_copy.2.1 220 = .ok (.iastore, 1) := by decide +kernel
theorem d_X6_copy_221 : decode m_X6_copy.2.1 221 = .ok (.iinc 8 1, 3) := by decide +kernel
theorem d_X6_copy_224 : decode m_X6_copy.2.1 224 = .ok (.goto (-58), 3) := by decide +kernel
theorem d_X6_copy_227 : decode m_X6_copy.2.1 227 = .ok (.iload 5, 2) := by decide +kernel
theorem d_X6_copy_229 : decode m_X6_copy.2.1 229 = .ok (.ireturn, 1) := by decide +kernel
