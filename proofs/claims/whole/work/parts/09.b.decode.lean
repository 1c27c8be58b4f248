theorem d_X5_day_0 : decode m_X5_day.2.1 0 = .ok (.aload_n 0, 1) := by decide +kernel
theorem d_X5_day_1 : decode m_X5_day.2.1 1 = .ok (.iconst 0, 1) := by decide +kernel
theorem d_X5_day_2 : decode m_X5_day.2.1 2 = .ok (.putfield 47, 3) := by decide +kernel
theorem d_X5_day_5 : decode m_X5_day.2.1 5 = .ok (.iload_n 1, 1) := by decide +kernel
theorem d_X5_day_6 : decode m_X5_day.2.1 6 = .ok (.invokestatic 51, 3) := by decide +kernel
theorem d_X5_day_9 : decode m_X5_day.2.1 9 = .ok (.ifCond .ne 5, 3) := by decide +kernel
theorem d_X5_day_12 : decode m_X5_day.2.1 12 = .ok (.iconst (-1), 1) := by decide +kernel
theorem d_X5_day_13 : decode m_X5_day.2.1 13 = .ok (.ireturn, 1) := by decide +kernel
theorem d_X5_day_14 : decode m_X5_day.2.1 14 = .ok (.iload_n 2, 1) := by decide +kernel
theorem d_X5_day_15 : decode m_X5_day.2.1 15 = .ok (.invokestatic 55, 3) := by decide +kernel
theorem d_X5_day_18 : decode m_X5_day.2.1 18 = .ok (.ifCond .eq 22, 3) := by decide +kernel
theorem d_X5_day_21 : decode m_X5_day.2.1 21 = .ok (.iload 4, 2) := by decide +kernel
theorem d_X5_day_23 : decode m_X5_day.2.1 23 = .ok (.iconst 0, 1) := by decide +kernel
theorem d_X5_day_24 : decode m_X5_day.2.1 24 = .ok (.bipush 20, 2) := by decide +kernel
theorem d_X5_day_26 : decode m_X5_day.2.1 26 = .ok (.invokestatic 125, 3) := by decide +kernel
theorem d_X5_day_29 : decode m_X5_day.2.1 29 = .ok (.ifCond .eq 11, 3) := by decide +kernel
theorem d_X5_day_32 : decode m_X5_day.2.1 32 = .ok (.iload 5, 2) := by decide +kernel
theorem d_X5_day_34 : decode m_X5_day.2.1 34 = .ok (.invokestatic 142, 3) := by decide +kernel
theorem d_X5_day_37 : decode m_X5_day.2.1 37 = .ok (.ifCond .ne 6, 3) := by decide +kernel
theorem d_X5_day_40 : decode m_X5_day.2.1 40 = .ok (.bipush (-2), 2) := by decide +kernel
theorem d_X5_day_42 : decode m_X5_day.2.1 42 = .ok (.ireturn, 1) := by decide +kernel
theorem d_X5_day_43 : decode m_X5_day.2.1 43 = .ok (.aload_n 0, 1) := by decide +kernel
theorem d_X5_day_44 : decode m_X5_day.2.1 44 = .ok (.getfield 23, 3) := by decide +kernel
theorem d_X5_day_47 : decode m_X5_day.2.1 47 = .ok (.iload_n 1, 1) := by decide +kernel
theorem d_X5_day_48 : decode m_X5_day.2.1 48 = .ok (.aaload, 1) := by decide +kernel
theorem d_X5_day_49 : decode m_X5_day.2.1 49 = .ok (.astore 6, 2) := by decide +kernel
theorem d_X5_day_51 : decode m_X5_day.2.1 51 = .ok (.aload 6, 2) := by decide +kernel
theorem d_X5_day_53 : decode m_X5_day.2.1 53 = .ok (.iload_n 2, 1) := by decide +kernel
theorem d_X5_day_54 : decode m_X5_day.2.1 54 = .ok (.iload_n 3, 1) := by decide +kernel
theorem d_X5_day_55 : decode m_X5_day.2.1 55 = .ok (.iload 4, 2) := by decide +kernel
theorem d_X5_day_57 : decode m_X5_day.2.1 57 = .ok (.invokestatic 58, 3) := by decide +kernel
theorem d_X5_day_60 : decode m_X5_day.2.1 60 = .ok (.istore 7, 2) := by decide +kernel
theorem d_X5_day_62 : decode m_X5_day.2.1 62 = .ok (.iload 7, 2) := by decide +kernel
theorem d_X5_day_64 : decode m_X5_day.2.1 64 = .ok (.ifCond .eq 10, 3) := by decide +kernel
theorem d_X5_day_67 : decode m_X5_day.2.1 67 = .ok (.aload_n 0, 1) := by decide +kernel
theorem d_X5_day_68 : decode m_X5_day.2.1 68 = .ok (.iload 7, 2) := by decide +kernel
theorem d_X5_day_70 : decode m_X5_day.2.1 70 = .ok (.invokevirtual 62, 3) := by decide +kernel
theorem d_X5_day_73 : decode m_X5_day.2.1 73 = .ok (.ireturn, 1) := by decide +kernel
theorem d_X5_day_74 : decode m_X5_day.2.1 74 = .ok (.aload_n 0, 1) := by decide +kernel
theorem d_X5_day_75 : decode m_X5_day.2.1 75 = .ok (.invokevirtual 135, 3) := by decide +kernel
theorem d_X5_day_78 : decode m_X5_day.2.1 78 = .ok (.ifCond .ne 6, 3) := by decide +kernel
theorem d_X5_day_81 : decode m_X5_day.2.1 81 = .ok (.bipush (-3), 2) := by decide +kernel
theorem d_X5_day_83 : decode m_X5_day.2.1 83 = .ok (.ireturn, 1) := by decide +kernel
theorem d_X5_day_84 : decode m_X5_day.2.1 84 = .ok (.aload 6, 2) := by decide +kernel
theorem d_X5_day_86 : decode m_X5_day.2.1 86 = .ok (.iload_n 3, 1) := by decide +kernel
theorem d_X5_day_87 : decode m_X5_day.2.1 87 = .ok (.iload 4, 2) := by decide +kernel
theorem d_X5_day_89 : decode m_X5_day.2.1 89 = .ok (.invokestatic 145, 3) := by decide +kernel
theorem d_X5_day_92 : decode m_X5_day.2.1 92 = .ok (.ifCond .ne 6, 3) := by decide +kernel
theorem d_X5_day_95 : decode m_X5_day.2.1 95 = .ok (.bipush (-2), 2) := by decide +kernel
theorem d_X5_day_97 : decode m_X5_day.2.1 97 = .ok (.ireturn, 1) := by decide +kernel
theorem d_X5_day_98 : decode m_X5_day.2.1 98 = .ok (.aload_n 0, 1) := by decide +kernel
theorem d_X5_day_99 : decode m_X5_day.2.1 99 = .ok (.aload 6, 2) := by decide +kernel
theorem d_X5_day_101 : decode m_X5_day.2.1 101 = .ok (.iload_n 3, 1) := by decide +kernel
theorem d_X5_day_102 : decode m_X5_day.2.1 102 = .ok (.iload 4, 2) := by decide +kernel
theorem d_X5_day_104 : decode m_X5_day.2.1 104 = .ok (.invokevirtual 149, 3) := by decide +kernel
theorem d_X5_day_107 : decode m_X5_day.2.1 107 = .ok (.istore 8, 2) := by decide +kernel
theorem d_X5_day_109 : decode m_X5_day.2.1 109 = .ok (.iload 5, 2) := by decide +kernel
theorem d_X5_day_111 : decode m_X5_day.2.1 111 = .ok (.iconst 1, 1) := by decide +kernel
theorem d_X5_day_112 : decode m_X5_day.2.1 112 = .ok (.if_icmp .ne 6, 3) := by decide +kernel
theorem d_X5_day_115 : decode m_X5_day.2.1 115 = .ok (.iload 8, 2) := by decide +kernel
theorem d_X5_day_117 : decode m_X5_day.2.1 117 = .ok (.ireturn, 1) := by decide +kernel
theorem d_X5_day_118 : decode m_X5_day.2.1 118 = .ok (.iload 8, 2) := by decide +kernel
theorem d_X5_day_120 : decode m_X5_day.2.1 120 = .ok (.bipush (-9), 2) := by decide +kernel
theorem d_X5_day_122 : decode m_X5_day.2.1 122 = .ok (.if_icmp .eq 11, 3) := by decide +kernel
theorem d_X5_day_125 : decode m_X5_day.2.1 125 = .ok (.bipush (-100), 2) := by decide +kernel
theorem d_X5_day_127 : decode m_X5_day.2.1 127 = .ok (.iload 8, 2) := by decide +kernel
theorem d_X5_day_129 : decode m_X5_day.2.1 129 = .ok (.isub, 1) := by decide +kernel
theorem d_X5_day_130 : decode m_X5_day.2.1 130 = .ok (.goto 9, 3) := by decide +kernel
theorem d_X5_day_133 : decode m_X5_day.2.1 133 = .ok (.aload_n 0, 1) := by decide +kernel
theorem d_X5_day_134 : decode m_X5_day.2.1 134 = .ok (.iload 5, 2) := by decide +kernel
theorem d_X5_day_136 : decode m_X5_day.2.1 136 = .ok (.invokevirtual 152, 3) := by decide +kernel
theorem d_X5_day_139 : decode m_X5_day.2.1 139 = .ok (.ireturn, 1) := by decide +kernel
theorem d_X5_behind_0 : decode m_X5_behind.2.1 0 = .ok (.iload_n 1, 1) := by decide +kernel
theorem d_X5_behind_1 : decode m_X5_behind.2.1 1 = .ok (.iconst 0, 1) := by decide +kernel
theorem d_X5_behind_2 : decode m_X5_behind.2.1 2 = .ok (.bipush 60, 2) := by decide +kernel
theorem d_X5_behind_4 : decode m_X5_behind.2.1 4 = .ok (.invokestatic 125, 3) := by decide +kernel
theorem d_X5_behind_7 : decode m_X5_behind.2.1 7 = .ok (.ifCond .eq 12, 3) := by decide +kernel
theorem d_X5_behind_10 : decode m_X5_behind.2.1 10 = .ok (.iload_n 2, 1) := by decide +kernel
theorem d_X5_behind_11 : decode m_X5_behind.2.1 11 = .ok (.iconst 0, 1) := by decide +kernel
theorem d_X5_behind_12 : decode m_X5_behind.2.1 12 = .ok (.iconst 2, 1) := by decide +kernel
theorem d_X5_behind_13 : decode m_X5_behind.2.1 13 = .ok (.invokestatic 125, 3) := by decide +kernel
theorem d_X5_behind_16 : decode m_X5_behind.2.1 16 = .ok (.ifCond .ne 6, 3) := by decide +kernel
theorem d_X5_behind_19 : decode m_X5_behind.2.1 19 = .ok (.bipush (-2), 2) := by decide +kernel
theorem d_X5_behind_21 : decode m_X5_behind.2.1 21 = .ok (.ireturn, 1) := by decide +kernel
theorem d_X5_behind_22 : decode m_X5_behind.2.1 22 = .ok (.aload_n 0, 1) := by decide +kernel
theorem d_X5_behind_23 : decode m_X5_behind.2.1 23 = .ok (.invokevirtual 135, 3) := by decide +kernel
theorem d_X5_behind_26 : decode m_X5_behind.2.1 26 = .ok (.ifCond .ne 6, 3) := by decide +kernel
theorem d_X5_behind_29 : decode m_X5_behind.2.1 29 = .ok (.bipush (-3), 2) := by decide +kernel
theorem d_X5_behind_31 : decode m_X5_behind.2.1 31 = .ok (.ireturn, 1) := by decide +kernel
theorem d_X5_behind_32 : decode m_X5_behind.2.1 32 = .ok (.aload_n 0, 1) := by decide +kernel
theorem d_X5_behind_33 : decode m_X5_behind.2.1 33 = .ok (.getfield 18, 3) := by decide +kernel
theorem d_X5_behind_36 : decode m_X5_behind.2.1 36 = .ok (.aload_n 0, 1) := by decide +kernel
theorem d_X5_behind_37 : decode m_X5_behind.2.1 37 = .ok (.getfield 12, 3) := by decide +kernel
theorem d_X5_behind_40 : decode m_X5_behind.2.1 40 = .ok (.invokevirtual 70, 3) := by decide +kernel
theorem d_X5_behind_43 : decode m_X5_behind.2.1 43 = .ok (.aload_n 0, 1) := by decide +kernel
theorem d_X5_behind_44 : decode m_X5_behind.2.1 44 = .ok (.getfield 18, 3) := by decide +kernel
theorem d_X5_behind_47 : decode m_X5_behind.2.1 47 = .ok (.iload_n 1, 1) := by decide +kernel
theorem d_X5_behind_48 : decode m_X5_behind.2.1 48 = .ok (.invokevirtual 138, 3) := by decide +kernel
theorem d_X5_behind_51 : decode m_X5_behind.2.1 51 = .ok (.iload_n 2, 1) := by decide +kernel
theorem d_X5_behind_52 : decode m_X5_behind.2.1 52 = .ok (.ifCond .ne 11, 3) := by decide +kernel
theorem d_X5_behind_55 : decode m_X5_behind.2.1 55 = .ok (.aload_n 0, 1) := by decide +kernel
theorem d_X5_behind_56 : decode m_X5_behind.2.1 56 = .ok (.getfield 18, 3) := by decide +kernel
theorem d_X5_behind_59 : decode m_X5_behind.2.1 59 = .ok (.invokevirtual 132, 3) := by decide +kernel
theorem d_X5_behind_62 : decode m_X5_behind.2.1 62 = .ok (.ireturn, 1) := by decide +kernel
theorem d_X5_behind_63 : decode m_X5_behind.2.1 63 = .ok (.iload_n 2, 1) := by decide +kernel
theorem d_X5_behind_64 : decode m_X5_behind.2.1 64 = .ok (.iconst 1, 1) := by decide +kernel
theorem d_X5_behind_65 : decode m_X5_behind.2.1 65 = .ok (.if_icmp .ne 13, 3) := by decide +kernel
theorem d_X5_behind_68 : decode m_X5_behind.2.1 68 = .ok (.aload_n 0, 1) := by decide +kernel
theorem d_X5_behind_69 : decode m_X5_behind.2.1 69 = .ok (.getfield 18, 3) := by decide +kernel
theorem d_X5_behind_72 : decode m_X5_behind.2.1 72 = .ok (.getfield 155, 3) := by decide +kernel
theorem d_X5_behind_75 : decode m_X5_behind.2.1 75 = .ok (.goto 18, 3) := by decide +kernel
theorem d_X5_behind_78 : decode m_X5_behind.2.1 78 = .ok (.aload_n 0, 1) := by decide +kernel
theorem d_X5_behind_79 : decode m_X5_behind.2.1 79 = .ok (.getfield 18, 3) := by decide +kernel
theorem d_X5_behind_82 : decode m_X5_behind.2.1 82 = .ok (.invokevirtual 158, 3) := by decide +kernel
theorem d_X5_behind_85 : decode m_X5_behind.2.1 85 = .ok (.aload_n 0, 1) := by decide +kernel
theorem d_X5_behind_86 : decode m_X5_behind.2.1 86 = .ok (.getfield 12, 3) := by decide +kernel
theorem d_X5_behind_89 : decode m_X5_behind.2.1 89 = .ok (.invokevirtual 158, 3) := by decide +kernel
theorem d_X5_behind_92 : decode m_X5_behind.2.1 92 = .ok (.isub, 1) := by decide +kernel
theorem d_X5_behind_93 : decode m_X5_behind.2.1 93 = .ok (.ireturn, 1) := by decide +kernel
theorem d_X5_quiet_0 : decode m_X5_quiet.2.1 0 = .ok (.aload_n 0, 1) := by decide +kernel
theorem d_X5_quiet_1 : decode m_X5_quiet.2.1 1 = .ok (.invokevirtual 135, 3) := by decide +kernel
theorem d_X5_quiet_4 : decode m_X5_quiet.2.1 4 = .ok (.ifCond .ne 6, 3) := by decide +kernel
theorem d_X5_quiet_7 : decode m_X5_quiet.2.1 7 = .ok (.bipush (-3), 2) := by decide +kernel
theorem d_X5_quiet_9 : decode m_X5_quiet.2.1 9 = .ok (.ireturn, 1) := by decide +kernel
theorem d_X5_quiet_10 : decode m_X5_quiet.2.1 10 = .ok (.aload_n 0, 1) := by decide +kernel
theorem d_X5_quiet_11 : decode m_X5_quiet.2.1 11 = .ok (.getfield 18, 3) := by decide +kernel
theorem d_X5_quiet_14 : decode m_X5_quiet.2.1 14 = .ok (.aload_n 0, 1) := by decide +kernel
theorem d_X5_quiet_15 : decode m_X5_quiet.2.1 15 = .ok (.getfield 12, 3) := by decide +kernel
theorem d_X5_quiet_18 : decode m_X5_quiet.2.1 18 = .ok (.invokevirtual 70, 3) := by decide +kernel
theorem d_X5_quiet_21 : decode m_X5_quiet.2.1 21 = .ok (.aload_n 0, 1) := by decide +kernel
theorem d_X5_quiet_22 : decode m_X5_quiet.2.1 22 = .ok (.getfield 18, 3) := by decide +kernel
theorem d_X5_quiet_25 : decode m_X5_quiet.2.1 25 = .ok (.bipush 60, 2) := by decide +kernel
theorem d_X5_quiet_27 : decode m_X5_quiet.2.1 27 = .ok (.invokevirtual 161, 3) := by decide +kernel
theorem d_X5_quiet_30 : decode m_X5_quiet.2.1 30 = .ok (.ireturn, 1) := by decide +kernel
theorem d_X5_fewest_0 : decode m_X5_fewest.2.1 0 = .ok (.iload_n 1, 1) := by decide +kernel
theorem d_X5_fewest_1 : decode m_X5_fewest.2.1 1 = .ok (.iconst 0, 1) := by decide +kernel
theorem d_X5_fewest_2 : decode m_X5_fewest.2.1 2 = .ok (.bipush 60, 2) := by decide +kernel
theorem d_X5_fewest_4 : decode m_X5_fewest.2.1 4 = .ok (.invokestatic 125, 3) := by decide +kernel
theorem d_X5_fewest_7 : decode m_X5_fewest.2.1 7 = .ok (.ifCond .eq 12, 3) := by decide +kernel
theorem d_X5_fewest_10 : decode m_X5_fewest.2.1 10 = .ok (.iload_n 2, 1) := by decide +kernel
theorem d_X5_fewest_11 : decode m_X5_fewest.2.1 11 = .ok (.iconst 0, 1) := by decide +kernel
theorem d_X5_fewest_12 : decode m_X5_fewest.2.1 12 = .ok (.iconst 1, 1) := by decide +kernel
theorem d_X5_fewest_13 : decode m_X5_fewest.2.1 13 = .ok (.invokestatic 125, 3) := by decide +kernel
theorem d_X5_fewest_16 : decode m_X5_fewest.2.1 16 = .ok (.ifCond .ne 6, 3) := by decide +kernel
theorem d_X5_fewest_19 : decode m_X5_fewest.2.1 19 = .ok (.bipush (-2), 2) := by decide +kernel
theorem d_X5_fewest_21 : decode m_X5_fewest.2.1 21 = .ok (.ireturn, 1) := by decide +kernel
theorem d_X5_fewest_22 : decode m_X5_fewest.2.1 22 = .ok (.aload_n 0, 1) := by decide +kernel
theorem d_X5_fewest_23 : decode m_X5_fewest.2.1 23 = .ok (.invokevirtual 135, 3) := by decide +kernel
theorem d_X5_fewest_26 : decode m_X5_fewest.2.1 26 = .ok (.ifCond .ne 6, 3) := by decide +kernel
theorem d_X5_fewest_29 : decode m_X5_fewest.2.1 29 = .ok (.bipush (-3), 2) := by decide +kernel
theorem d_X5_fewest_31 : decode m_X5_fewest.2.1 31 = .ok (.ireturn, 1) := by decide +kernel
theorem d_X5_fewest_32 : decode m_X5_fewest.2.1 32 = .ok (.bipush (-9), 2) := by decide +kernel
theorem d_X5_fewest_34 : decode m_X5_fewest.2.1 34 = .ok (.istore_n 3, 1) := by decide +kernel
theorem d_X5_fewest_35 : decode m_X5_fewest.2.1 35 = .ok (.bipush (-9), 2) := by decide +kernel
theorem d_X5_fewest_37 : decode m_X5_fewest.2.1 37 = .ok (.istore 4, 2) := by decide +kernel
theorem d_X5_fewest_39 : decode m_X5_fewest.2.1 39 = .ok (.iconst 0, 1) := by decide +kernel
theorem d_X5_fewest_40 : decode m_X5_fewest.2.1 40 = .ok (.istore 5, 2) := by decide +kernel
theorem d_X5_fewest_42 : decode m_X5_fewest.2.1 42 = .ok (.iload 5, 2) := by decide +kernel
theorem d_X5_fewest_44 : decode m_X5_fewest.2.1 44 = .ok (.aload_n 0, 1) := by decide +kernel
theorem d_X5_fewest_45 : decode m_X5_fewest.2.1 45 = .ok (.getfield 12, 3) := by decide +kernel
theorem d_X5_fewest_48 : decode m_X5_fewest.2.1 48 = .ok (.invokevirtual 164, 3) := by decide +kernel
theorem d_X5_fewest_51 : decode m_X5_fewest.2.1 51 = .ok (.if_icmp .ge 58, 3) := by decide +kernel
theorem d_X5_fewest_54 : decode m_X5_fewest.2.1 54 = .ok (.iload 5, 2) := by decide +kernel
theorem d_X5_fewest_56 : decode m_X5_fewest.2.1 56 = .ok (.invokestatic 167, 3) := by decide +kernel
theorem d_X5_fewest_59 : decode m_X5_fewest.2.1 59 = .ok (.istore 6, 2) := by decide +kernel
theorem d_X5_fewest_61 : decode m_X5_fewest.2.1 61 = .ok (.iload_n 3, 1) := by decide +kernel
theorem d_X5_fewest_62 : decode m_X5_fewest.2.1 62 = .ok (.bipush (-9), 2) := by decide +kernel
theorem d_X5_fewest_64 : decode m_X5_fewest.2.1 64 = .ok (.if_icmp .eq 10, 3) := by decide +kernel
theorem d_X5_fewest_67 : decode m_X5_fewest.2.1 67 = .ok (.iload 6, 2) := by decide +kernel
theorem d_X5_fewest_69 : decode m_X5_fewest.2.1 69 = .ok (.iload 4, 2) := by decide +kernel
theorem d_X5_fewest_71 : decode m_X5_fewest.2.1 71 = .ok (.if_icmp .ge 32, 3) := by decide +kernel
theorem d_X5_fewest_74 : decode m_X5_fewest.2.1 74 = .ok (.aload_n 0, 1) := by decide +kernel
theorem d_X5_fewest_75 : decode m_X5_fewest.2.1 75 = .ok (.getfield 12, 3) := by decide +kernel
theorem d_X5_fewest_78 : decode m_X5_fewest.2.1 78 = .ok (.iload 5, 2) := by decide +kernel
theorem d_X5_fewest_80 : decode m_X5_fewest.2.1 80 = .ok (.invokevirtual 172, 3) := by decide +kernel
theorem d_X5_fewest_83 : decode m_X5_fewest.2.1 83 = .ok (.ifCond .eq 20, 3) := by decide +kernel
theorem d_X5_fewest_86 : decode m_X5_fewest.2.1 86 = .ok (.aload_n 0, 1) := by decide +kernel
theorem d_X5_fewest_87 : decode m_X5_fewest.2.1 87 = .ok (.iload 5, 2) := by decide +kernel
theorem d_X5_fewest_89 : decode m_X5_fewest.2.1 89 = .ok (.iload_n 1, 1) := by decide +kernel
theorem d_X5_fewest_90 : decode m_X5_fewest.2.1 90 = .ok (.invokevirtual 175, 3) := by decide +kernel
theorem d_X5_fewest_93 : decode m_X5_fewest.2.1 93 = .ok (.ifCond .eq 10, 3) := by decide +kernel
theorem d_X5_fewest_96 : decode m_X5_fewest.2.1 96 = .ok (.iload 5, 2) := by decide +kernel
theorem d_X5_fewest_98 : decode m_X5_fewest.2.1 98 = .ok (.istore_n 3, 1) := by decide +kernel
theorem d_X5_fewest_99 : decode m_X5_fewest.2.1 99 = .ok (.iload 6, 2) := by decide +kernel
theorem d_X5_fewest_101 : decode m_X5_fewest.2.1 101 = .ok (.istore 4, 2) := by decide +kernel
theorem d_X5_fewest_103 : decode m_X5_fewest.2.1 103 = .ok (.iinc 5 1, 3) := by decide +kernel
theorem d_X5_fewest_106 : decode m_X5_fewest.2.1 106 = .ok (.goto (-64), 3) := by decide +kernel
theorem d_X5_fewest_109 : decode m_X5_fewest.2.1 109 = .ok (.iload_n 2, 1) := by decide +kernel
theorem d_X5_fewest_110 : decode m_X5_fewest.2.1 110 = .ok (.ifCond .ne 8, 3) := by decide +kernel
theorem d_X5_fewest_113 : decode m_X5_fewest.2.1 113 = .ok (.iload 4, 2) := by decide +kernel
theorem d_X5_fewest_115 : decode m_X5_fewest.2.1 115 = .ok (.goto 4, 3) := by decide +kernel
theorem d_X5_fewest_118 : decode m_X5_fewest.2.1 118 = .ok (.iload_n 3, 1) := by decide +kernel
theorem d_X5_fewest_119 : decode m_X5_fewest.2.1 119 = .ok (.ireturn, 1) := by decide +kernel
theorem d_X5_claps_0 : decode m_X5_claps.2.1 0 = .ok (.iload_n 1, 1) := by decide +kernel
theorem d_X5_claps_1 : decode m_X5_claps.2.1 1 = .ok (.iconst 0, 1) := by decide +kernel
theorem d_X5_claps_2 : decode m_X5_claps.2.1 2 = .ok (.bipush 90, 2) := by decide +kernel
theorem d_X5_claps_4 : decode m_X5_claps.2.1 4 = .ok (.invokestatic 125, 3) := by decide +kernel
theorem d_X5_claps_7 : decode m_X5_claps.2.1 7 = .ok (.ifCond .eq 12, 3) := by decide +kernel
theorem d_X5_claps_10 : decode m_X5_claps.2.1 10 = .ok (.iload_n 2, 1) := by decide +kernel
theorem d_X5_claps_11 : decode m_X5_claps.2.1 11 = .ok (.iconst 0, 1) := by decide +kernel
theorem d_X5_claps_12 : decode m_X5_claps.2.1 12 = .ok (.iconst 1, 1) := by decide +kernel
theorem d_X5_claps_13 : decode m_X5_claps.2.1 13 = .ok (.invokestatic 125, 3) := by decide +kernel
theorem d_X5_claps_16 : decode m_X5_claps.2.1 16 = .ok (.ifCond .ne 6, 3) := by decide +kernel
theorem d_X5_claps_19 : decode m_X5_claps.2.1 19 = .ok (.bipush (-2), 2) := by decide +kernel
theorem d_X5_claps_21 : decode m_X5_claps.2.1 21 = .ok (.ireturn, 1) := by decide +kernel
theorem d_X5_claps_22 : decode m_X5_claps.2.1 22 = .ok (.aload_n 0, 1) := by decide +kernel
theorem d_X5_claps_23 : decode m_X5_claps.2.1 23 = .ok (.invokevirtual 135, 3) := by decide +kernel
theorem d_X5_claps_26 : decode m_X5_claps.2.1 26 = .ok (.ifCond .ne 6, 3) := by decide +kernel
theorem d_X5_claps_29 : decode m_X5_claps.2.1 29 = .ok (.bipush (-3), 2) := by decide +kernel
theorem d_X5_claps_31 : decode m_X5_claps.2.1 31 = .ok (.ireturn, 1) := by decide +kernel
theorem d_X5_claps_32 : decode m_X5_claps.2.1 32 = .ok (.bipush (-9), 2) := by decide +kernel
theorem d_X5_claps_34 : decode m_X5_claps.2.1 34 = .ok (.istore_n 3, 1) := by decide +kernel
theorem d_X5_claps_35 : decode m_X5_claps.2.1 35 = .ok (.iconst 0, 1) := by decide +kernel
theorem d_X5_claps_36 : decode m_X5_claps.2.1 36 = .ok (.istore 4, 2) := by decide +kernel
theorem d_X5_claps_38 : decode m_X5_claps.2.1 38 = .ok (.iconst 0, 1) := by decide +kernel
theorem d_X5_claps_39 : decode m_X5_claps.2.1 39 = .ok (.istore 5, 2) := by decide +kernel
theorem d_X5_claps_41 : decode m_X5_claps.2.1 41 = .ok (.iload 5, 2) := by decide +kernel
theorem d_X5_claps_43 : decode m_X5_claps.2.1 43 = .ok (.aload_n 0, 1) := by decide +kernel
theorem d_X5_claps_44 : decode m_X5_claps.2.1 44 = .ok (.getfield 12, 3) := by decide +kernel
theorem d_X5_claps_47 : decode m_X5_claps.2.1 47 = .ok (.invokevirtual 164, 3) := by decide +kernel
theorem d_X5_claps_50 : decode m_X5_claps.2.1 50 = .ok (.if_icmp .ge 50, 3) := by decide +kernel
theorem d_X5_claps_53 : decode m_X5_claps.2.1 53 = .ok (.aload_n 0, 1) := by decide +kernel
theorem d_X5_claps_54 : decode m_X5_claps.2.1 54 = .ok (.getfield 12, 3) := by decide +kernel
theorem d_X5_claps_57 : decode m_X5_claps.2.1 57 = .ok (.iload 5, 2) := by decide +kernel
theorem d_X5_claps_59 : decode m_X5_claps.2.1 59 = .ok (.invokevirtual 172, 3) := by decide +kernel
theorem d_X5_claps_62 : decode m_X5_claps.2.1 62 = .ok (.ifCond .eq 32, 3) := by decide +kernel
theorem d_X5_claps_65 : decode m_X5_claps.2.1 65 = .ok (.aload_n 0, 1) := by decide +kernel
theorem d_X5_claps_66 : decode m_X5_claps.2.1 66 = .ok (.getfield 12, 3) := by decide +kernel
theorem d_X5_claps_69 : decode m_X5_claps.2.1 69 = .ok (.iload 5, 2) := by decide +kernel
theorem d_X5_claps_71 : decode m_X5_claps.2.1 71 = .ok (.invokevirtual 179, 3) := by decide +kernel
theorem d_X5_claps_74 : decode m_X5_claps.2.1 74 = .ok (.iload_n 1, 1) := by decide +kernel
theorem d_X5_claps_75 : decode m_X5_claps.2.1 75 = .ok (.if_icmp .ne 19, 3) := by decide +kernel
theorem d_X5_claps_78 : decode m_X5_claps.2.1 78 = .ok (.iinc 4 1, 3) := by decide +kernel
theorem d_X5_claps_81 : decode m_X5_claps.2.1 81 = .ok (.iload_n 3, 1) := by decide +kernel
theorem d_X5_claps_82 : decode m_X5_claps.2.1 82 = .ok (.bipush (-9), 2) := by decide +kernel
theorem d_X5_claps_84 : decode m_X5_claps.2.1 84 = .ok (.if_icmp .ne 8, 3) := by decide +kernel
theorem d_X5_claps_87 : decode m_X5_claps.2.1 87 = .ok (.iload 5, 2) := by decide +kernel
theorem d_X5_claps_89 : decode m_X5_claps.2.1 89 = .ok (.goto 4, 3) := by decide +kernel
theorem d_X5_claps_92 : decode m_X5_claps.2.1 92 = .ok (.iload_n 3, 1) := by decide +kernel
theorem d_X5_claps_93 : decode m_X5_claps.2.1 93 = .ok (.istore_n 3, 1) := by decide +kernel
theorem d_X5_claps_94 : decode m_X5_claps.2.1 94 = .ok (.iinc 5 1, 3) := by decide +kernel
theorem d_X5_claps_97 : decode m_X5_claps.2.1 97 = .ok (.goto (-56), 3) := by decide +kernel
theorem d_X5_claps_100 : decode m_X5_claps.2.1 100 = .ok (.iload_n 2, 1) := by decide +kernel
theorem d_X5_claps_101 : decode m_X5_claps.2.1 101 = .ok (.ifCond .ne 8, 3) := by decide +kernel
theorem d_X5_claps_104 : decode m_X5_claps.2.1 104 = .ok (.iload 4, 2) := by decide +kernel
theorem d_X5_claps_106 : decode m_X5_claps.2.1 106 = .ok (.goto 4, 3) := by decide +kernel
theorem d_X5_claps_109 : decode m_X5_claps.2.1 109 = .ok (.iload_n 3, 1) := by decide +kernel
theorem d_X5_claps_110 : decode m_X5_claps.2.1 110 = .ok (.ireturn, 1) := by decide +kernel
theorem d_X5_rests_0 : decode m_X5_rests.2.1 0 = .ok (.aload_n 0, 1) := by decide +kernel
theorem d_X5_rests_1 : decode m_X5_rests.2.1 1 = .ok (.getfield 12, 3) := by decide +kernel
theorem d_X5_rests_4 : decode m_X5_rests.2.1 4 = .ok (.iload_n 1, 1) := by decide +kernel
theorem d_X5_rests_5 : decode m_X5_rests.2.1 5 = .ok (.invokevirtual 77, 3) := by decide +kernel
theorem d_X5_rests_8 : decode m_X5_rests.2.1 8 = .ok (.ifCond .eq 19, 3) := by decide +kernel
theorem d_X5_rests_11 : decode m_X5_rests.2.1 11 = .ok (.aload_n 0, 1) := by decide +kernel
theorem d_X5_rests_12 : decode m_X5_rests.2.1 12 = .ok (.getfield 12, 3) := by decide +kernel
theorem d_X5_rests_15 : decode m_X5_rests.2.1 15 = .ok (.iload_n 2, 1) := by decide +kernel
theorem d_X5_rests_16 : decode m_X5_rests.2.1 16 = .ok (.invokevirtual 77, 3) := by decide +kernel
theorem d_X5_rests_19 : decode m_X5_rests.2.1 19 = .ok (.ifCond .eq 8, 3) := by decide +kernel
theorem d_X5_rests_22 : decode m_X5_rests.2.1 22 = .ok (.iload_n 1, 1) := by decide +kernel
theorem d_X5_rests_23 : decode m_X5_rests.2.1 23 = .ok (.iload_n 2, 1) := by decide +kernel
theorem d_X5_rests_24 : decode m_X5_rests.2.1 24 = .ok (.if_icmp .ne 5, 3) := by decide +kernel
theorem d_X5_rests_27 : decode m_X5_rests.2.1 27 = .ok (.iconst (-1), 1) := by decide +kernel
theorem d_X5_rests_28 : decode m_X5_rests.2.1 28 = .ok (.ireturn, 1) := by decide +kernel
theorem d_X5_rests_29 : decode m_X5_rests.2.1 29 = .ok (.iconst 0, 1) := by decide +kernel
theorem d_X5_rests_30 : decode m_X5_rests.2.1 30 = .ok (.istore_n 3, 1) := by decide +kernel
theorem d_X5_rests_31 : decode m_X5_rests.2.1 31 = .ok (.iload_n 3, 1) := by decide +kernel
theorem d_X5_rests_32 : decode m_X5_rests.2.1 32 = .ok (.iconst 4, 1) := by decide +kernel
theorem d_X5_rests_33 : decode m_X5_rests.2.1 33 = .ok (.if_icmp .ge 22, 3) := by decide +kernel
theorem d_X5_rests_36 : decode m_X5_rests.2.1 36 = .ok (.aload_n 0, 1) := by decide +kernel
theorem d_X5_rests_37 : decode m_X5_rests.2.1 37 = .ok (.getfield 34, 3) := by decide +kernel
theorem d_X5_rests_40 : decode m_X5_rests.2.1 40 = .ok (.iload_n 3, 1) := by decide +kernel
theorem d_X5_rests_41 : decode m_X5_rests.2.1 41 = .ok (.aload_n 0, 1) := by decide +kernel
theorem d_X5_rests_42 : decode m_X5_rests.2.1 42 = .ok (.iload_n 1, 1) := by decide +kernel
theorem d_X5_rests_43 : decode m_X5_rests.2.1 43 = .ok (.iload_n 2, 1) := by decide +kernel
theorem d_X5_rests_44 : decode m_X5_rests.2.1 44 = .ok (.iload_n 3, 1) := by decide +kernel
theorem d_X5_rests_45 : decode m_X5_rests.2.1 45 = .ok (.invokevirtual 182, 3) := by decide +kernel
theorem d_X5_rests_48 : decode m_X5_rests.2.1 48 = .ok (.iastore, 1) := by decide +kernel
theorem d_X5_rests_49 : decode m_X5_rests.2.1 49 = .ok (.iinc 3 1, 3) := by decide +kernel
theorem d_X5_rests_52 : decode m_X5_rests.2.1 52 = .ok (.goto (-21), 3) := by decide +kernel
theorem d_X5_rests_55 : decode m_X5_rests.2.1 55 = .ok (.iconst 0, 1) := by decide +kernel
theorem d_X5_rests_56 : decode m_X5_rests.2.1 56 = .ok (.istore_n 3, 1) := by decide +kernel
theorem d_X5_rests_57 : decode m_X5_rests.2.1 57 = .ok (.iconst 0, 1) := by decide +kernel
theorem d_X5_rests_58 : decode m_X5_rests.2.1 58 = .ok (.istore 4, 2) := by decide +kernel
theorem d_X5_rests_60 : decode m_X5_rests.2.1 60 = .ok (.iload 4, 2) := by decide +kernel
theorem d_X5_rests_62 : decode m_X5_rests.2.1 62 = .ok (.iconst 4, 1) := by decide +kernel
theorem d_X5_rests_63 : decode m_X5_rests.2.1 63 = .ok (.if_icmp .ge 38, 3) := by decide +kernel
theorem d_X5_rests_66 : decode m_X5_rests.2.1 66 = .ok (.aload_n 0, 1) := by decide +kernel
theorem d_X5_rests_67 : decode m_X5_rests.2.1 67 = .ok (.iload_n 1, 1) := by decide +kernel
theorem d_X5_rests_68 : decode m_X5_rests.2.1 68 = .ok (.iconst 1, 1) := by decide +kernel
theorem d_X5_rests_69 : decode m_X5_rests.2.1 69 = .ok (.iload 4, 2) := by decide +kernel
theorem d_X5_rests_71 : decode m_X5_rests.2.1 71 = .ok (.invokevirtual 186, 3) := by decide +kernel
theorem d_X5_rests_74 : decode m_X5_rests.2.1 74 = .ok (.ifCond .eq 21, 3) := by decide +kernel
theorem d_X5_rests_77 : decode m_X5_rests.2.1 77 = .ok (.aload_n 0, 1) := by decide +kernel
theorem d_X5_rests_78 : decode m_X5_rests.2.1 78 = .ok (.iload_n 2, 1) := by decide +kernel
theorem d_X5_rests_79 : decode m_X5_rests.2.1 79 = .ok (.iconst 2, 1) := by decide +kernel
theorem d_X5_rests_80 : decode m_X5_rests.2.1 80 = .ok (.iload 4, 2) := by decide +kernel
theorem d_X5_rests_82 : decode m_X5_rests.2.1 82 = .ok (.invokevirtual 186, 3) := by decide +kernel
theorem d_X5_rests_85 : decode m_X5_rests.2.1 85 = .ok (.ifCond .eq 10, 3) := by decide +kernel
theorem d_X5_rests_88 : decode m_X5_rests.2.1 88 = .ok (.iload_n 3, 1) := by decide +kernel
theorem d_X5_rests_89 : decode m_X5_rests.2.1 89 = .ok (.iconst 1, 1) := by decide +kernel
theorem d_X5_rests_90 : decode m_X5_rests.2.1 90 = .ok (.iload 4, 2) := by decide +kernel
theorem d_X5_rests_92 : decode m_X5_rests.2.1 92 = .ok (.ishl, 1) := by decide +kernel
theorem d_X5_rests_93 : decode m_X5_rests.2.1 93 = .ok (.ior, 1) := by decide +kernel
theorem d_X5_rests_94 : decode m_X5_rests.2.1 94 = .ok (.istore_n 3, 1) := by decide +kernel
theorem d_X5_rests_95 : decode m_X5_rests.2.1 95 = .ok (.iinc 4 1, 3) := by decide +kernel
theorem d_X5_rests_98 : decode m_X5_rests.2.1 98 = .ok (.goto (-38), 3) := by decide +kernel
theorem d_X5_rests_101 : decode m_X5_rests.2.1 101 = .ok (.iload_n 3, 1) := by decide +kernel
theorem d_X5_rests_102 : decode m_X5_rests.2.1 102 = .ok (.ireturn, 1) := by decide +kernel
theorem d_X5_reading_0 : decode m_X5_reading.2.1 0 = .ok (.aload_n 0, 1) := by decide +kernel
theorem d_X5_reading_1 : decode m_X5_reading.2.1 1 = .ok (.invokevirtual 135, 3) := by decide +kernel
theorem d_X5_reading_4 : decode m_X5_reading.2.1 4 = .ok (.ifCond .ne 6, 3) := by decide +kernel
theorem d_X5_reading_7 : decode m_X5_reading.2.1 7 = .ok (.bipush (-3), 2) := by decide +kernel
theorem d_X5_reading_9 : decode m_X5_reading.2.1 9 = .ok (.ireturn, 1) := by decide +kernel
theorem d_X5_reading_10 : decode m_X5_reading.2.1 10 = .ok (.iload_n 1, 1) := by decide +kernel
theorem d_X5_reading_11 : decode m_X5_reading.2.1 11 = .ok (.iconst 0, 1) := by decide +kernel
theorem d_X5_reading_12 : decode m_X5_reading.2.1 12 = .ok (.bipush 60, 2) := by decide +kernel
theorem d_X5_reading_14 : decode m_X5_reading.2.1 14 = .ok (.invokestatic 125, 3) := by decide +kernel
theorem d_X5_reading_17 : decode m_X5_reading.2.1 17 = .ok (.ifCond .eq 14, 3) := by decide +kernel
theorem d_X5_reading_20 : decode m_X5_reading.2.1 20 = .ok (.iload_n 2, 1) := by decide +kernel
theorem d_X5_reading_21 : decode m_X5_reading.2.1 21 = .ok (.iconst 0, 1) := by decide +kernel
theorem d_X5_reading_22 : decode m_X5_reading.2.1 22 = .ok (.sipush 200, 3) := by decide +kernel
theorem d_X5_reading_25 : decode m_X5_reading.2.1 25 = .ok (.invokestatic 125, 3) := by decide +kernel
theorem d_X5_reading_28 : decode m_X5_reading.2.1 28 = .ok (.ifCond .ne 6, 3) := by decide +kernel
theorem d_X5_reading_31 : decode m_X5_reading.2.1 31 = .ok (.bipush (-2), 2) := by decide +kernel
theorem d_X5_reading_33 : decode m_X5_reading.2.1 33 = .ok (.ireturn, 1) := by decide +kernel
theorem d_X5_reading_34 : decode m_X5_reading.2.1 34 = .ok (.aload_n 0, 1) := by decide +kernel
theorem d_X5_reading_35 : decode m_X5_reading.2.1 35 = .ok (.getfield 37, 3) := by decide +kernel
theorem d_X5_reading_38 : decode m_X5_reading.2.1 38 = .ok (.bipush 8, 2) := by decide +kernel
theorem d_X5_reading_40 : decode m_X5_reading.2.1 40 = .ok (.if_icmp .lt 6, 3) := by decide +kernel
theorem d_X5_reading_43 : decode m_X5_reading.2.1 43 = .ok (.bipush (-4), 2) := by decide +kernel
theorem d_X5_reading_45 : decode m_X5_reading.2.1 45 = .ok (.ireturn, 1) := by decide +kernel
theorem d_X5_reading_46 : decode m_X5_reading.2.1 46 = .ok (.aload_n 0, 1) := by decide +kernel
theorem d_X5_reading_47 : decode m_X5_reading.2.1 47 = .ok (.getfield 27, 3) := by decide +kernel
theorem d_X5_reading_50 : decode m_X5_reading.2.1 50 = .ok (.aload_n 0, 1) := by decide +kernel
theorem d_X5_reading_51 : decode m_X5_reading.2.1 51 = .ok (.getfield 37, 3) := by decide +kernel
theorem d_X5_reading_54 : decode m_X5_reading.2.1 54 = .ok (.iload_n 1, 1) := by decide +kernel
theorem d_X5_reading_55 : decode m_X5_reading.2.1 55 = .ok (.bipush 18, 2) := by decide +kernel
theorem d_X5_reading_57 : decode m_X5_reading.2.1 57 = .ok (.invokestatic 189, 3) := by decide +kernel
theorem d_X5_reading_60 : decode m_X5_reading.2.1 60 = .ok (.iastore, 1) := by decide +kernel
theorem d_X5_reading_61 : decode m_X5_reading.2.1 61 = .ok (.aload_n 0, 1) := by decide +kernel
theorem d_X5_reading_62 : decode m_X5_reading.2.1 62 = .ok (.getfield 31, 3) := by decide +kernel
theorem d_X5_reading_65 : decode m_X5_reading.2.1 65 = .ok (.aload_n 0, 1) := by decide +kernel
theorem d_X5_reading_66 : decode m_X5_reading.2.1 66 = .ok (.getfield 37, 3) := by decide +kernel
theorem d_X5_reading_69 : decode m_X5_reading.2.1 69 = .ok (.iload_n 2, 1) := by decide +kernel
theorem d_X5_reading_70 : decode m_X5_reading.2.1 70 = .ok (.iastore, 1) := by decide +kernel
theorem d_X5_reading_71 : decode m_X5_reading.2.1 71 = .ok (.aload_n 0, 1) := by decide +kernel
theorem d_X5_reading_72 : decode m_X5_reading.2.1 72 = .ok (.dup, 1) := by decide +kernel
theorem d_X5_reading_73 : decode m_X5_reading.2.1 73 = .ok (.getfield 37, 3) := by decide +kernel
theorem d_X5_reading_76 : decode m_X5_reading.2.1 76 = .ok (.iconst 1, 1) := by decide +kernel
theorem d_X5_reading_77 : decode m_X5_reading.2.1 77 = .ok (.iadd, 1) := by decide +kernel
theorem d_X5_reading_78 : decode m_X5_reading.2.1 78 = .ok (.putfield 37, 3) := by decide +kernel
theorem d_X5_reading_81 : decode m_X5_reading.2.1 81 = .ok (.aload_n 0, 1) := by decide +kernel
theorem d_X5_reading_82 : decode m_X5_reading.2.1 82 = .ok (.getfield 37, 3) := by decide +kernel
theorem d_X5_reading_85 : decode m_X5_reading.2.1 85 = .ok (.iconst 1, 1) := by decide +kernel
theorem d_X5_reading_86 : decode m_X5_reading.2.1 86 = .ok (.isub, 1) := by decide +kernel
theorem d_X5_reading_87 : decode m_X5_reading.2.1 87 = .ok (.ireturn, 1) := by decide +kernel
theorem d_X5_back_0 : decode m_X5_back.2.1 0 = .ok (.iload_n 1, 1) := by decide +kernel
theorem d_X5_back_1 : decode m_X5_back.2.1 1 = .ok (.iconst 0, 1) := by decide +kernel
theorem d_X5_back_2 : decode m_X5_back.2.1 2 = .ok (.aload_n 0, 1) := by decide +kernel
theorem d_X5_back_3 : decode m_X5_back.2.1 3 = .ok (.getfield 37, 3) := by decide +kernel
theorem d_X5_back_6 : decode m_X5_back.2.1 6 = .ok (.invokestatic 125, 3) := by decide +kernel
theorem d_X5_back_9 : decode m_X5_back.2.1 9 = .ok (.ifCond .ne 6, 3) := by decide +kernel
theorem d_X5_back_12 : decode m_X5_back.2.1 12 = .ok (.bipush (-2), 2) := by decide +kernel
theorem d_X5_back_14 : decode m_X5_back.2.1 14 = .ok (.ireturn, 1) := by decide +kernel
theorem d_X5_back_15 : decode m_X5_back.2.1 15 = .ok (.aload_n 0, 1) := by decide +kernel
theorem d_X5_back_16 : decode m_X5_back.2.1 16 = .ok (.dup, 1) := by decide +kernel
theorem d_X5_back_17 : decode m_X5_back.2.1 17 = .ok (.getfield 37, 3) := by decide +kernel
theorem d_X5_back_20 : decode m_X5_back.2.1 20 = .ok (.iload_n 1, 1) := by decide +kernel
theorem d_X5_back_21 : decode m_X5_back.2.1 21 = .ok (.isub, 1) := by decide +kernel
theorem d_X5_back_22 : decode m_X5_back.2.1 22 = .ok (.putfield 37, 3) := by decide +kernel
theorem d_X5_back_25 : decode m_X5_back.2.1 25 = .ok (.aload_n 0, 1) := by decide +kernel
theorem d_X5_back_26 : decode m_X5_back.2.1 26 = .ok (.getfield 37, 3) := by decide +kernel
theorem d_X5_back_29 : decode m_X5_back.2.1 29 = .ok (.ireturn, 1) := by decide +kernel
theorem d_X5_kinds_0 : decode m_X5_kinds.2.1 0 = .ok (.aload_n 0, 1) := by decide +kernel
theorem d_X5_kinds_1 : decode m_X5_kinds.2.1 1 = .ok (.getfield 12, 3) := by decide +kernel
theorem d_X5_kinds_4 : decode m_X5_kinds.2.1 4 = .ok (.iload_n 1, 1) := by decide +kernel
theorem d_X5_kinds_5 : decode m_X5_kinds.2.1 5 = .ok (.invokevirtual 77, 3) := by decide +kernel
theorem d_X5_kinds_8 : decode m_X5_kinds.2.1 8 = .ok (.ifCond .ne 5, 3) := by decide +kernel
theorem d_X5_kinds_11 : decode m_X5_kinds.2.1 11 = .ok (.iconst (-1), 1) := by decide +kernel
theorem d_X5_kinds_12 : decode m_X5_kinds.2.1 12 = .ok (.ireturn, 1) := by decide +kernel
theorem d_X5_kinds_13 : decode m_X5_kinds.2.1 13 = .ok (.iconst 0, 1) := by decide +kernel
theorem d_X5_kinds_14 : decode m_X5_kinds.2.1 14 = .ok (.istore_n 2, 1) := by decide +kernel
theorem d_X5_kinds_15 : decode m_X5_kinds.2.1 15 = .ok (.iconst 0, 1) := by decide +kernel
theorem d_X5_kinds_16 : decode m_X5_kinds.2.1 16 = .ok (.istore_n 3, 1) := by decide +kernel
theorem d_X5_kinds_17 : decode m_X5_kinds.2.1 17 = .ok (.iload_n 3, 1) := by decide +kernel
theorem d_X5_kinds_18 : decode m_X5_kinds.2.1 18 = .ok (.iconst 2, 1) := by decide +kernel
theorem d_X5_kinds_19 : decode m_X5_kinds.2.1 19 = .ok (.if_icmp .gt 46, 3) := by decide +kernel
theorem d_X5_kinds_22 : decode m_X5_kinds.2.1 22 = .ok (.aload_n 0, 1) := by decide +kernel
theorem d_X5_kinds_23 : decode m_X5_kinds.2.1 23 = .ok (.getfield 18, 3) := by decide +kernel
theorem d_X5_kinds_26 : decode m_X5_kinds.2.1 26 = .ok (.aload_n 0, 1) := by decide +kernel
theorem d_X5_kinds_27 : decode m_X5_kinds.2.1 27 = .ok (.getfield 12, 3) := by decide +kernel
theorem d_X5_kinds_30 : decode m_X5_kinds.2.1 30 = .ok (.invokevirtual 70, 3) := by decide +kernel
theorem d_X5_kinds_33 : decode m_X5_kinds.2.1 33 = .ok (.aload_n 0, 1) := by decide +kernel
theorem d_X5_kinds_34 : decode m_X5_kinds.2.1 34 = .ok (.getfield 18, 3) := by decide +kernel
theorem d_X5_kinds_37 : decode m_X5_kinds.2.1 37 = .ok (.getfield 80, 3) := by decide +kernel
theorem d_X5_kinds_40 : decode m_X5_kinds.2.1 40 = .ok (.iload_n 1, 1) := by decide +kernel
theorem d_X5_kinds_41 : decode m_X5_kinds.2.1 41 = .ok (.aaload, 1) := by decide +kernel
theorem d_X5_kinds_42 : decode m_X5_kinds.2.1 42 = .ok (.iload_n 3, 1) := by decide +kernel
theorem d_X5_kinds_43 : decode m_X5_kinds.2.1 43 = .ok (.putfield 84, 3) := by decide +kernel
theorem d_X5_kinds_46 : decode m_X5_kinds.2.1 46 = .ok (.aload_n 0, 1) := by decide +kernel
theorem d_X5_kinds_47 : decode m_X5_kinds.2.1 47 = .ok (.invokevirtual 195, 3) := by decide +kernel
theorem d_X5_kinds_50 : decode m_X5_kinds.2.1 50 = .ok (.ifCond .eq 9, 3) := by decide +kernel
theorem d_X5_kinds_53 : decode m_X5_kinds.2.1 53 = .ok (.iload_n 2, 1) := by decide +kernel
theorem d_X5_kinds_54 : decode m_X5_kinds.2.1 54 = .ok (.iconst 1, 1) := by decide +kernel
theorem d_X5_kinds_55 : decode m_X5_kinds.2.1 55 = .ok (.iload_n 3, 1) := by decide +kernel
theorem d_X5_kinds_56 : decode m_X5_kinds.2.1 56 = .ok (.ishl, 1) := by decide +kernel
theorem d_X5_kinds_57 : decode m_X5_kinds.2.1 57 = .ok (.ior, 1) := by decide +kernel
theorem d_X5_kinds_58 : decode m_X5_kinds.2.1 58 = .ok (.istore_n 2, 1) := by decide +kernel
theorem d_X5_kinds_59 : decode m_X5_kinds.2.1 59 = .ok (.iinc 3 1, 3) := by decide +kernel
theorem d_X5_kinds_62 : decode m_X5_kinds.2.1 62 = .ok (.goto (-45), 3) := by decide +kernel
theorem d_X5_kinds_65 : decode m_X5_kinds.2.1 65 = .ok (.iload_n 2, 1) := by decide +kernel
theorem d_X5_kinds_66 : decode m_X5_kinds.2.1 66 = .ok (.ireturn, 1) := by decide +kernel
theorem d_X5_wrongs_0 : decode m_X5_wrongs.2.1 0 = .ok (.aload_n 0, 1) := by decide +kernel
theorem d_X5_wrongs_1 : decode m_X5_wrongs.2.1 1 = .ok (.getfield 12, 3) := by decide +kernel
theorem d_X5_wrongs_4 : decode m_X5_wrongs.2.1 4 = .ok (.iload_n 1, 1) := by decide +kernel
theorem d_X5_wrongs_5 : decode m_X5_wrongs.2.1 5 = .ok (.invokevirtual 77, 3) := by decide +kernel
theorem d_X5_wrongs_8 : decode m_X5_wrongs.2.1 8 = .ok (.ifCond .ne 5, 3) := by decide +kernel
theorem d_X5_wrongs_11 : decode m_X5_wrongs.2.1 11 = .ok (.iconst (-1), 1) := by decide +kernel
theorem d_X5_wrongs_12 : decode m_X5_wrongs.2.1 12 = .ok (.ireturn, 1) := by decide +kernel
theorem d_X5_wrongs_13 : decode m_X5_wrongs.2.1 13 = .ok (.iconst 0, 1) := by decide +kernel
theorem d_X5_wrongs_14 : decode m_X5_wrongs.2.1 14 = .ok (.istore_n 2, 1) := by decide +kernel
theorem d_X5_wrongs_15 : decode m_X5_wrongs.2.1 15 = .ok (.iconst 0, 1) := by decide +kernel
theorem d_X5_wrongs_16 : decode m_X5_wrongs.2.1 16 = .ok (.istore_n 3, 1) := by decide +kernel
theorem d_X5_wrongs_17 : decode m_X5_wrongs.2.1 17 = .ok (.iload_n 3, 1) := by decide +kernel
theorem d_X5_wrongs_18 : decode m_X5_wrongs.2.1 18 = .ok (.bipush 9, 2) := by decide +kernel
theorem d_X5_wrongs_20 : decode m_X5_wrongs.2.1 20 = .ok (.if_icmp .gt 46, 3) := by decide +kernel
theorem d_X5_wrongs_23 : decode m_X5_wrongs.2.1 23 = .ok (.aload_n 0, 1) := by decide +kernel
theorem d_X5_wrongs_24 : decode m_X5_wrongs.2.1 24 = .ok (.getfield 18, 3) := by decide +kernel
theorem d_X5_wrongs_27 : decode m_X5_wrongs.2.1 27 = .ok (.aload_n 0, 1) := by decide +kernel
theorem d_X5_wrongs_28 : decode m_X5_wrongs.2.1 28 = .ok (.getfield 12, 3) := by decide +kernel
theorem d_X5_wrongs_31 : decode m_X5_wrongs.2.1 31 = .ok (.invokevirtual 70, 3) := by decide +kernel
theorem d_X5_wrongs_34 : decode m_X5_wrongs.2.1 34 = .ok (.aload_n 0, 1) := by decide +kernel
theorem d_X5_wrongs_35 : decode m_X5_wrongs.2.1 35 = .ok (.getfield 18, 3) := by decide +kernel
theorem d_X5_wrongs_38 : decode m_X5_wrongs.2.1 38 = .ok (.getfield 80, 3) := by decide +kernel
theorem d_X5_wrongs_41 : decode m_X5_wrongs.2.1 41 = .ok (.iload_n 1, 1) := by decide +kernel
theorem d_X5_wrongs_42 : decode m_X5_wrongs.2.1 42 = .ok (.aaload, 1) := by decide +kernel
theorem d_X5_wrongs_43 : decode m_X5_wrongs.2.1 43 = .ok (.iload_n 3, 1) := by decide +kernel
theorem d_X5_wrongs_44 : decode m_X5_wrongs.2.1 44 = .ok (.putfield 89, 3) := by decide +kernel
theorem d_X5_wrongs_47 : decode m_X5_wrongs.2.1 47 = .ok (.aload_n 0, 1) := by decide +kernel
theorem d_X5_wrongs_48 : decode m_X5_wrongs.2.1 48 = .ok (.invokevirtual 195, 3) := by decide +kernel
theorem d_X5_wrongs_51 : decode m_X5_wrongs.2.1 51 = .ok (.ifCond .eq 9, 3) := by decide +kernel
theorem d_X5_wrongs_54 : decode m_X5_wrongs.2.1 54 = .ok (.iload_n 2, 1) := by decide +kernel
theorem d_X5_wrongs_55 : decode m_X5_wrongs.2.1 55 = .ok (.iconst 1, 1) := by decide +kernel
theorem d_X5_wrongs_56 : decode m_X5_wrongs.2.1 56 = .ok (.iload_n 3, 1) := by decide +kernel
theorem d_X5_wrongs_57 : decode m_X5_wrongs.2.1 57 = .ok (.ishl, 1) := by decide +kernel
theorem d_X5_wrongs_58 : decode m_X5_wrongs.2.1 58 = .ok (.ior, 1) := by decide +kernel
theorem d_X5_wrongs_59 : decode m_X5_wrongs.2.1 59 = .ok (.istore_n 2, 1) := by decide +kernel
theorem d_X5_wrongs_60 : decode m_X5_wrongs.2.1 60 = .ok (.iinc 3 1, 3) := by decide +kernel
theorem d_X5_wrongs_63 : decode m_X5_wrongs.2.1 63 = .ok (.goto (-46), 3) := by decide +kernel
theorem d_X5_wrongs_66 : decode m_X5_wrongs.2.1 66 = .ok (.iload_n 2, 1) := by decide +kernel
theorem d_X5_wrongs_67 : decode m_X5_wrongs.2.1 67 = .ok (.ireturn, 1) := by decide +kernel
theorem d_X5_steps_0 : decode m_X5_steps.2.1 0 = .ok (.aload_n 0, 1) := by decide +kernel
theorem d_X5_steps_1 : decode m_X5_steps.2.1 1 = .ok (.invokevirtual 135, 3) := by decide +kernel
theorem d_X5_steps_4 : decode m_X5_steps.2.1 4 = .ok (.ifCond .ne 6, 3) := by decide +kernel
theorem d_X5_steps_7 : decode m_X5_steps.2.1 7 = .ok (.bipush (-3), 2) := by decide +kernel
theorem d_X5_steps_9 : decode m_X5_steps.2.1 9 = .ok (.ireturn, 1) := by decide +kernel
theorem d_X5_steps_10 : decode m_X5_steps.2.1 10 = .ok (.iconst 0, 1) := by decide +kernel
theorem d_X5_steps_11 : decode m_X5_steps.2.1 11 = .ok (.istore_n 1, 1) := by decide +kernel
theorem d_X5_steps_12 : decode m_X5_steps.2.1 12 = .ok (.iconst 1, 1) := by decide +kernel
theorem d_X5_steps_13 : decode m_X5_steps.2.1 13 = .ok (.istore_n 2, 1) := by decide +kernel
theorem d_X5_steps_14 : decode m_X5_steps.2.1 14 = .ok (.iload_n 2, 1) := by decide +kernel
theorem d_X5_steps_15 : decode m_X5_steps.2.1 15 = .ok (.iconst 4, 1) := by decide +kernel
theorem d_X5_steps_16 : decode m_X5_steps.2.1 16 = .ok (.if_icmp .gt 41, 3) := by decide +kernel
theorem d_X5_steps_19 : decode m_X5_steps.2.1 19 = .ok (.aload_n 0, 1) := by decide +kernel
theorem d_X5_steps_20 : decode m_X5_steps.2.1 20 = .ok (.getfield 18, 3) := by decide +kernel
theorem d_X5_steps_23 : decode m_X5_steps.2.1 23 = .ok (.aload_n 0, 1) := by decide +kernel
theorem d_X5_steps_24 : decode m_X5_steps.2.1 24 = .ok (.getfield 12, 3) := by decide +kernel
theorem d_X5_steps_27 : decode m_X5_steps.2.1 27 = .ok (.invokevirtual 70, 3) := by decide +kernel
theorem d_X5_steps_30 : decode m_X5_steps.2.1 30 = .ok (.aload_n 0, 1) := by decide +kernel
theorem d_X5_steps_31 : decode m_X5_steps.2.1 31 = .ok (.getfield 18, 3) := by decide +kernel
theorem d_X5_steps_34 : decode m_X5_steps.2.1 34 = .ok (.iload_n 2, 1) := by decide +kernel
theorem d_X5_steps_35 : decode m_X5_steps.2.1 35 = .ok (.putfield 198, 3) := by decide +kernel
theorem d_X5_steps_38 : decode m_X5_steps.2.1 38 = .ok (.aload_n 0, 1) := by decide +kernel
theorem d_X5_steps_39 : decode m_X5_steps.2.1 39 = .ok (.invokevirtual 195, 3) := by decide +kernel
theorem d_X5_steps_42 : decode m_X5_steps.2.1 42 = .ok (.ifCond .eq 9, 3) := by decide +kernel
theorem d_X5_steps_45 : decode m_X5_steps.2.1 45 = .ok (.iload_n 1, 1) := by decide +kernel
theorem d_X5_steps_46 : decode m_X5_steps.2.1 46 = .ok (.iconst 1, 1) := by decide +kernel
theorem d_X5_steps_47 : decode m_X5_steps.2.1 47 = .ok (.iload_n 2, 1) := by decide +kernel
theorem d_X5_steps_48 : decode m_X5_steps.2.1 48 = .ok (.ishl, 1) := by decide +kernel
theorem d_X5_steps_49 : decode m_X5_steps.2.1 49 = .ok (.ior, 1) := by decide +kernel
theorem d_X5_steps_50 : decode m_X5_steps.2.1 50 = .ok (.istore_n 1, 1) := by decide +kernel
theorem d_X5_steps_51 : decode m_X5_steps.2.1 51 = .ok (.iinc 2 1, 3) := by decide +kernel
theorem d_X5_steps_54 : decode m_X5_steps.2.1 54 = .ok (.goto (-40), 3) := by decide +kernel
theorem d_X5_steps_57 : decode m_X5_steps.2.1 57 = .ok (.iload_n 1, 1) := by decide +kernel
theorem d_X5_steps_58 : decode m_X5_steps.2.1 58 = .ok (.ireturn, 1) := by decide +kernel
theorem d_X5_odds_0 : decode m_X5_odds.2.1 0 = .ok (.iload_n 1, 1) := by decide +kernel
theorem d_X5_odds_1 : decode m_X5_odds.2.1 1 = .ok (.iconst 0, 1) := by decide +kernel
theorem d_X5_odds_2 : decode m_X5_odds.2.1 2 = .ok (.bipush 90, 2) := by decide +kernel
theorem d_X5_odds_4 : decode m_X5_odds.2.1 4 = .ok (.invokestatic 125, 3) := by decide +kernel
theorem d_X5_odds_7 : decode m_X5_odds.2.1 7 = .ok (.ifCond .eq 19, 3) := by decide +kernel
theorem d_X5_odds_10 : decode m_X5_odds.2.1 10 = .ok (.iload_n 2, 1) := by decide +kernel
theorem d_X5_odds_11 : decode m_X5_odds.2.1 11 = .ok (.iconst 0, 1) := by decide +kernel
theorem d_X5_odds_12 : decode m_X5_odds.2.1 12 = .ok (.iconst 1, 1) := by decide +kernel
theorem d_X5_odds_13 : decode m_X5_odds.2.1 13 = .ok (.invokestatic 125, 3) := by decide +kernel
theorem d_X5_odds_16 : decode m_X5_odds.2.1 16 = .ok (.ifCond .eq 10, 3) := by decide +kernel
theorem d_X5_odds_19 : decode m_X5_odds.2.1 19 = .ok (.aload_n 0, 1) := by decide +kernel
theorem d_X5_odds_20 : decode m_X5_odds.2.1 20 = .ok (.invokevirtual 135, 3) := by decide +kernel
theorem d_X5_odds_23 : decode m_X5_odds.2.1 23 = .ok (.ifCond .ne 7, 3) := by decide +kernel
theorem d_X5_odds_26 : decode m_X5_odds.2.1 26 = .ok (.ldc2_w 201, 3) := by decide +kernel
theorem d_X5_odds_29 : decode m_X5_odds.2.1 29 = .ok (.lreturn, 1) := by decide +kernel
theorem d_X5_odds_30 : decode m_X5_odds.2.1 30 = .ok (.iconst 0, 1) := by decide +kernel
theorem d_X5_odds_31 : decode m_X5_odds.2.1 31 = .ok (.istore_n 3, 1) := by decide +kernel
theorem d_X5_odds_32 : decode m_X5_odds.2.1 32 = .ok (.iconst 0, 1) := by decide +kernel
theorem d_X5_odds_33 : decode m_X5_odds.2.1 33 = .ok (.istore 4, 2) := by decide +kernel
theorem d_X5_odds_35 : decode m_X5_odds.2.1 35 = .ok (.iconst 0, 1) := by decide +kernel
theorem d_X5_odds_36 : decode m_X5_odds.2.1 36 = .ok (.istore 5, 2) := by decide +kernel
theorem d_X5_odds_38 : decode m_X5_odds.2.1 38 = .ok (.iload 5, 2) := by decide +kernel
theorem d_X5_odds_40 : decode m_X5_odds.2.1 40 = .ok (.aload_n 0, 1) := by decide +kernel
theorem d_X5_odds_41 : decode m_X5_odds.2.1 41 = .ok (.getfield 12, 3) := by decide +kernel
theorem d_X5_odds_44 : decode m_X5_odds.2.1 44 = .ok (.invokevirtual 164, 3) := by decide +kernel
theorem d_X5_odds_47 : decode m_X5_odds.2.1 47 = .ok (.if_icmp .ge 45, 3) := by decide +kernel
theorem d_X5_odds_50 : decode m_X5_odds.2.1 50 = .ok (.aload_n 0, 1) := by decide +kernel
theorem d_X5_odds_51 : decode m_X5_odds.2.1 51 = .ok (.getfield 12, 3) := by decide +kernel
theorem d_X5_odds_54 : decode m_X5_odds.2.1 54 = .ok (.iload 5, 2) := by decide +kernel
theorem d_X5_odds_56 : decode m_X5_odds.2.1 56 = .ok (.invokevirtual 172, 3) := by decide +kernel
theorem d_X5_odds_59 : decode m_X5_odds.2.1 59 = .ok (.ifCond .eq 27, 3) := by decide +kernel
theorem d_X5_odds_62 : decode m_X5_odds.2.1 62 = .ok (.iinc 4 1, 3) := by decide +kernel
theorem d_X5_odds_65 : decode m_X5_odds.2.1 65 = .ok (.iload_n 3, 1) := by decide +kernel
theorem d_X5_odds_66 : decode m_X5_odds.2.1 66 = .ok (.aload_n 0, 1) := by decide +kernel
theorem d_X5_odds_67 : decode m_X5_odds.2.1 67 = .ok (.getfield 12, 3) := by decide +kernel
theorem d_X5_odds_70 : decode m_X5_odds.2.1 70 = .ok (.iload 5, 2) := by decide +kernel
theorem d_X5_odds_72 : decode m_X5_odds.2.1 72 = .ok (.invokevirtual 179, 3) := by decide +kernel
theorem d_X5_odds_75 : decode m_X5_odds.2.1 75 = .ok (.iload_n 1, 1) := by decide +kernel
theorem d_X5_odds_76 : decode m_X5_odds.2.1 76 = .ok (.if_icmp .lt 7, 3) := by decide +kernel
theorem d_X5_odds_79 : decode m_X5_odds.2.1 79 = .ok (.iconst 1, 1) := by decide +kernel
theorem d_X5_odds_80 : decode m_X5_odds.2.1 80 = .ok (.goto 4, 3) := by decide +kernel
theorem d_X5_odds_83 : decode m_X5_odds.2.1 83 = .ok (.iconst 0, 1) := by decide +kernel
theorem d_X5_odds_84 : decode m_X5_odds.2.1 84 = .ok (.iadd, 1) := by decide +kernel
theorem d_X5_odds_85 : decode m_X5_odds.2.1 85 = .ok (.istore_n 3, 1) := by decide +kernel
theorem d_X5_odds_86 : decode m_X5_odds.2.1 86 = .ok (.iinc 5 1, 3) := by decide +kernel
theorem d_X5_odds_89 : decode m_X5_odds.2.1 89 = .ok (.goto (-51), 3) := by decide +kernel
theorem d_X5_odds_92 : decode m_X5_odds.2.1 92 = .ok (.iload 4, 2) := by decide +kernel
theorem d_X5_odds_94 : decode m_X5_odds.2.1 94 = .ok (.iconst 1, 1) := by decide +kernel
theorem d_X5_odds_95 : decode m_X5_odds.2.1 95 = .ok (.if_icmp .le 22, 3) := by decide +kernel
theorem d_X5_odds_98 : decode m_X5_odds.2.1 98 = .ok (.iload_n 3, 1) := by decide +kernel
theorem d_X5_odds_99 : decode m_X5_odds.2.1 99 = .ok (.iconst 2, 1) := by decide +kernel
theorem d_X5_odds_100 : decode m_X5_odds.2.1 100 = .ok (.irem, 1) := by decide +kernel
theorem d_X5_odds_101 : decode m_X5_odds.2.1 101 = .ok (.ifCond .ne 16, 3) := by decide +kernel
theorem d_X5_odds_104 : decode m_X5_odds.2.1 104 = .ok (.iload_n 3, 1) := by decide +kernel
theorem d_X5_odds_105 : decode m_X5_odds.2.1 105 = .ok (.iconst 2, 1) := by decide +kernel
theorem d_X5_odds_106 : decode m_X5_odds.2.1 106 = .ok (.idiv, 1) := by decide +kernel
theorem d_X5_odds_107 : decode m_X5_odds.2.1 107 = .ok (.istore_n 3, 1) := by decide +kernel
theorem d_X5_odds_108 : decode m_X5_odds.2.1 108 = .ok (.iload 4, 2) := by decide +kernel
theorem d_X5_odds_110 : decode m_X5_odds.2.1 110 = .ok (.iconst 2, 1) := by decide +kernel
theorem d_X5_odds_111 : decode m_X5_odds.2.1 111 = .ok (.idiv, 1) := by decide +kernel
theorem d_X5_odds_112 : decode m_X5_odds.2.1 112 = .ok (.istore 4, 2) := by decide +kernel
theorem d_X5_odds_114 : decode m_X5_odds.2.1 114 = .ok (.goto (-22), 3) := by decide +kernel
theorem d_X5_odds_117 : decode m_X5_odds.2.1 117 = .ok (.iload_n 2, 1) := by decide +kernel
theorem d_X5_odds_118 : decode m_X5_odds.2.1 118 = .ok (.ifCond .ne 8, 3) := by decide +kernel
theorem d_X5_odds_121 : decode m_X5_odds.2.1 121 = .ok (.iload_n 3, 1) := by decide +kernel
theorem d_X5_odds_122 : decode m_X5_odds.2.1 122 = .ok (.i2l, 1) := by decide +kernel
theorem d_X5_odds_123 : decode m_X5_odds.2.1 123 = .ok (.goto 6, 3) := by decide +kernel
theorem d_X5_odds_126 : decode m_X5_odds.2.1 126 = .ok (.iload 4, 2) := by decide +kernel
theorem d_X5_odds_128 : decode m_X5_odds.2.1 128 = .ok (.i2l, 1) := by decide +kernel
theorem d_X5_odds_129 : decode m_X5_odds.2.1 129 = .ok (.lreturn, 1) := by decide +kernel
theorem d_X5_sheet_0 : decode m_X5_sheet.2.1 0 = .ok (.aload_n 0, 1) := by decide +kernel
theorem d_X5_sheet_1 : decode m_X5_sheet.2.1 1 = .ok (.iconst 0, 1) := by decide +kernel
theorem d_X5_sheet_2 : decode m_X5_sheet.2.1 2 = .ok (.putfield 47, 3) := by decide +kernel
theorem d_X5_sheet_5 : decode m_X5_sheet.2.1 5 = .ok (.iload_n 1, 1) := by decide +kernel
theorem d_X5_sheet_6 : decode m_X5_sheet.2.1 6 = .ok (.invokestatic 51, 3) := by decide +kernel
theorem d_X5_sheet_9 : decode m_X5_sheet.2.1 9 = .ok (.ifCond .ne 5, 3) := by decide +kernel
theorem d_X5_sheet_12 : decode m_X5_sheet.2.1 12 = .ok (.iconst (-1), 1) := by decide +kernel
theorem d_X5_sheet_13 : decode m_X5_sheet.2.1 13 = .ok (.ireturn, 1) := by decide +kernel
theorem d_X5_sheet_14 : decode m_X5_sheet.2.1 14 = .ok (.iload_n 2, 1) := by decide +kernel
theorem d_X5_sheet_15 : decode m_X5_sheet.2.1 15 = .ok (.invokestatic 55, 3) := by decide +kernel
theorem d_X5_sheet_18 : decode m_X5_sheet.2.1 18 = .ok (.ifCond .eq 9, 3) := by decide +kernel
theorem d_X5_sheet_21 : decode m_X5_sheet.2.1 21 = .ok (.iload_n 3, 1) := by decide +kernel
theorem d_X5_sheet_22 : decode m_X5_sheet.2.1 22 = .ok (.bipush 60, 2) := by decide +kernel
theorem d_X5_sheet_24 : decode m_X5_sheet.2.1 24 = .ok (.if_icmp .le 6, 3) := by decide +kernel
theorem d_X5_sheet_27 : decode m_X5_sheet.2.1 27 = .ok (.bipush (-2), 2) := by decide +kernel
theorem d_X5_sheet_29 : decode m_X5_sheet.2.1 29 = .ok (.ireturn, 1) := by decide +kernel
theorem d_X5_sheet_30 : decode m_X5_sheet.2.1 30 = .ok (.iload_n 3, 1) := by decide +kernel
theorem d_X5_sheet_31 : decode m_X5_sheet.2.1 31 = .ok (.ifCond .ge 9, 3) := by decide +kernel
theorem d_X5_sheet_34 : decode m_X5_sheet.2.1 34 = .ok (.aload_n 0, 1) := by decide +kernel
theorem d_X5_sheet_35 : decode m_X5_sheet.2.1 35 = .ok (.iconst 4, 1) := by decide +kernel
theorem d_X5_sheet_36 : decode m_X5_sheet.2.1 36 = .ok (.invokevirtual 62, 3) := by decide +kernel
theorem d_X5_sheet_39 : decode m_X5_sheet.2.1 39 = .ok (.ireturn, 1) := by decide +kernel
theorem d_X5_sheet_40 : decode m_X5_sheet.2.1 40 = .ok (.aload_n 0, 1) := by decide +kernel
theorem d_X5_sheet_41 : decode m_X5_sheet.2.1 41 = .ok (.getfield 23, 3) := by decide +kernel
theorem d_X5_sheet_44 : decode m_X5_sheet.2.1 44 = .ok (.iload_n 1, 1) := by decide +kernel
theorem d_X5_sheet_45 : decode m_X5_sheet.2.1 45 = .ok (.aaload, 1) := by decide +kernel
theorem d_X5_sheet_46 : decode m_X5_sheet.2.1 46 = .ok (.iload_n 2, 1) := by decide +kernel
theorem d_X5_sheet_47 : decode m_X5_sheet.2.1 47 = .ok (.iload_n 3, 1) := by decide +kernel
theorem d_X5_sheet_48 : decode m_X5_sheet.2.1 48 = .ok (.invokevirtual 203, 3) := by decide +kernel
theorem d_X5_sheet_51 : decode m_X5_sheet.2.1 51 = .ok (.iconst 1, 1) := by decide +kernel
theorem d_X5_sheet_52 : decode m_X5_sheet.2.1 52 = .ok (.ireturn, 1) := by decide +kernel
theorem d_X5_lose_0 : decode m_X5_lose.2.1 0 = .ok (.iload_n 1, 1) := by decide +kernel
theorem d_X5_lose_1 : decode m_X5_lose.2.1 1 = .ok (.invokestatic 51, 3) := by decide +kernel
theorem d_X5_lose_4 : decode m_X5_lose.2.1 4 = .ok (.ifCond .ne 5, 3) := by decide +kernel
theorem d_X5_lose_7 : decode m_X5_lose.2.1 7 = .ok (.iconst (-1), 1) := by decide +kernel
theorem d_X5_lose_8 : decode m_X5_lose.2.1 8 = .ok (.ireturn, 1) := by decide +kernel
theorem d_X5_lose_9 : decode m_X5_lose.2.1 9 = .ok (.aload_n 0, 1) := by decide +kernel
theorem d_X5_lose_10 : decode m_X5_lose.2.1 10 = .ok (.getfield 23, 3) := by decide +kernel
theorem d_X5_lose_13 : decode m_X5_lose.2.1 13 = .ok (.iload_n 1, 1) := by decide +kernel
theorem d_X5_lose_14 : decode m_X5_lose.2.1 14 = .ok (.aaload, 1) := by decide +kernel
theorem d_X5_lose_15 : decode m_X5_lose.2.1 15 = .ok (.getfield 207, 3) := by decide +kernel
theorem d_X5_lose_18 : decode m_X5_lose.2.1 18 = .ok (.ifCond .eq 7, 3) := by decide +kernel
theorem d_X5_lose_21 : decode m_X5_lose.2.1 21 = .ok (.iconst 1, 1) := by decide +kernel
theorem d_X5_lose_22 : decode m_X5_lose.2.1 22 = .ok (.goto 4, 3) := by decide +kernel
theorem d_X5_lose_25 : decode m_X5_lose.2.1 25 = .ok (.iconst 0, 1) := by decide +kernel
theorem d_X5_lose_26 : decode m_X5_lose.2.1 26 = .ok (.istore_n 2, 1) := by decide +kernel
theorem d_X5_lose_27 : decode m_X5_lose.2.1 27 = .ok (.aload_n 0, 1) := by decide +kernel
theorem d_X5_lose_28 : decode m_X5_lose.2.1 28 = .ok (.getfield 23, 3) := by decide +kernel
theorem d_X5_lose_31 : decode m_X5_lose.2.1 31 = .ok (.iload_n 1, 1) := by decide +kernel
theorem d_X5_lose_32 : decode m_X5_lose.2.1 32 = .ok (.aaload, 1) := by decide +kernel
theorem d_X5_lose_33 : decode m_X5_lose.2.1 33 = .ok (.iconst 0, 1) := by decide +kernel
theorem d_X5_lose_34 : decode m_X5_lose.2.1 34 = .ok (.putfield 207, 3) := by decide +kernel
theorem d_X5_lose_37 : decode m_X5_lose.2.1 37 = .ok (.iload_n 2, 1) := by decide +kernel
theorem d_X5_lose_38 : decode m_X5_lose.2.1 38 = .ok (.ireturn, 1) := by decide +kernel
theorem d_X5_put_0 : decode m_X5_put.2.1 0 = .ok (.aload_n 0, 1) := by decide +kernel
theorem d_X5_put_1 : decode m_X5_put.2.1 1 = .ok (.iconst 0, 1) := by decide +kernel
theorem d_X5_put_2 : decode m_X5_put.2.1 2 = .ok (.putfield 47, 3) := by decide +kernel
theorem d_X5_put_5 : decode m_X5_put.2.1 5 = .ok (.iload_n 1, 1) := by decide +kernel
theorem d_X5_put_6 : decode m_X5_put.2.1 6 = .ok (.invokestatic 51, 3) := by decide +kernel
theorem d_X5_put_9 : decode m_X5_put.2.1 9 = .ok (.ifCond .ne 5, 3) := by decide +kernel
theorem d_X5_put_12 : decode m_X5_put.2.1 12 = .ok (.iconst (-1), 1) := by decide +kernel
theorem d_X5_put_13 : decode m_X5_put.2.1 13 = .ok (.ireturn, 1) := by decide +kernel
theorem d_X5_put_14 : decode m_X5_put.2.1 14 = .ok (.aload_n 0, 1) := by decide +kernel
theorem d_X5_put_15 : decode m_X5_put.2.1 15 = .ok (.getfield 23, 3) := by decide +kernel
theorem d_X5_put_18 : decode m_X5_put.2.1 18 = .ok (.iload_n 1, 1) := by decide +kernel
theorem d_X5_put_19 : decode m_X5_put.2.1 19 = .ok (.aaload, 1) := by decide +kernel
theorem d_X5_put_20 : decode m_X5_put.2.1 20 = .ok (.astore 4, 2) := by decide +kernel
theorem d_X5_put_22 : decode m_X5_put.2.1 22 = .ok (.aload 4, 2) := by decide +kernel
theorem d_X5_put_24 : decode m_X5_put.2.1 24 = .ok (.getfield 207, 3) := by decide +kernel
theorem d_X5_put_27 : decode m_X5_put.2.1 27 = .ok (.ifCond .ne 9, 3) := by decide +kernel
theorem d_X5_put_30 : decode m_X5_put.2.1 30 = .ok (.aload_n 0, 1) := by decide +kernel
theorem d_X5_put_31 : decode m_X5_put.2.1 31 = .ok (.iconst 1, 1) := by decide +kernel
theorem d_X5_put_32 : decode m_X5_put.2.1 32 = .ok (.invokevirtual 62, 3) := by decide +kernel
theorem d_X5_put_35 : decode m_X5_put.2.1 35 = .ok (.ireturn, 1) := by decide +kernel
theorem d_X5_put_36 : decode m_X5_put.2.1 36 = .ok (.aload 4, 2) := by decide +kernel
theorem d_X5_put_38 : decode m_X5_put.2.1 38 = .ok (.iload_n 2, 1) := by decide +kernel
theorem d_X5_put_39 : decode m_X5_put.2.1 39 = .ok (.iconst 1, 1) := by decide +kernel
theorem d_X5_put_40 : decode m_X5_put.2.1 40 = .ok (.invokevirtual 210, 3) := by decide +kernel
theorem d_X5_put_43 : decode m_X5_put.2.1 43 = .ok (.ifCond .ne 9, 3) := by decide +kernel
theorem d_X5_put_46 : decode m_X5_put.2.1 46 = .ok (.aload_n 0, 1) := by decide +kernel
theorem d_X5_put_47 : decode m_X5_put.2.1 47 = .ok (.iconst 3, 1) := by decide +kernel
theorem d_X5_put_48 : decode m_X5_put.2.1 48 = .ok (.invokevirtual 62, 3) := by decide +kernel
theorem d_X5_put_51 : decode m_X5_put.2.1 51 = .ok (.ireturn, 1) := by decide +kernel
theorem d_X5_put_52 : decode m_X5_put.2.1 52 = .ok (.aload 4, 2) := by decide +kernel
theorem d_X5_put_54 : decode m_X5_put.2.1 54 = .ok (.getfield 213, 3) := by decide +kernel
theorem d_X5_put_57 : decode m_X5_put.2.1 57 = .ok (.iload_n 2, 1) := by decide +kernel
theorem d_X5_put_58 : decode m_X5_put.2.1 58 = .ok (.aload 4, 2) := by decide +kernel
theorem d_X5_put_60 : decode m_X5_put.2.1 60 = .ok (.iload_n 3, 1) := by decide +kernel
theorem d_X5_put_61 : decode m_X5_put.2.1 61 = .ok (.invokevirtual 216, 3) := by decide +kernel
theorem d_X5_put_64 : decode m_X5_put.2.1 64 = .ok (.iastore, 1) := by decide +kernel
theorem d_X5_put_65 : decode m_X5_put.2.1 65 = .ok (.iconst 1, 1) := by decide +kernel
theorem d_X5_put_66 : decode m_X5_put.2.1 66 = .ok (.ireturn, 1) := by decide +kernel
theorem d_X5_cell_0 : decode m_X5_cell.2.1 0 = .ok (.aload_n 0, 1) := by decide +kernel
theorem d_X5_cell_1 : decode m_X5_cell.2.1 1 = .ok (.iconst 0, 1) := by decide +kernel
theorem d_X5_cell_2 : decode m_X5_cell.2.1 2 = .ok (.putfield 47, 3) := by decide +kernel
theorem d_X5_cell_5 : decode m_X5_cell.2.1 5 = .ok (.iload_n 1, 1) := by decide +kernel
theorem d_X5_cell_6 : decode m_X5_cell.2.1 6 = .ok (.invokestatic 51, 3) := by decide +kernel
theorem d_X5_cell_9 : decode m_X5_cell.2.1 9 = .ok (.ifCond .eq 10, 3) := by decide +kernel
theorem d_X5_cell_12 : decode m_X5_cell.2.1 12 = .ok (.iload_n 3, 1) := by decide +kernel
theorem d_X5_cell_13 : decode m_X5_cell.2.1 13 = .ok (.invokestatic 55, 3) := by decide +kernel
theorem d_X5_cell_16 : decode m_X5_cell.2.1 16 = .ok (.ifCond .ne 7, 3) := by decide +kernel
theorem d_X5_cell_19 : decode m_X5_cell.2.1 19 = .ok (.ldc2_w 201, 3) := by decide +kernel
theorem d_X5_cell_22 : decode m_X5_cell.2.1 22 = .ok (.lreturn, 1) := by decide +kernel
theorem d_X5_cell_23 : decode m_X5_cell.2.1 23 = .ok (.aload_n 0, 1) := by decide +kernel
theorem d_X5_cell_24 : decode m_X5_cell.2.1 24 = .ok (.getfield 23, 3) := by decide +kernel
theorem d_X5_cell_27 : decode m_X5_cell.2.1 27 = .ok (.iload_n 1, 1) := by decide +kernel
theorem d_X5_cell_28 : decode m_X5_cell.2.1 28 = .ok (.aaload, 1) := by decide +kernel
theorem d_X5_cell_29 : decode m_X5_cell.2.1 29 = .ok (.astore 4, 2) := by decide +kernel
theorem d_X5_cell_31 : decode m_X5_cell.2.1 31 = .ok (.aload 4, 2) := by decide +kernel
theorem d_X5_cell_33 : decode m_X5_cell.2.1 33 = .ok (.iload_n 3, 1) := by decide +kernel
theorem d_X5_cell_34 : decode m_X5_cell.2.1 34 = .ok (.iload_n 2, 1) := by decide +kernel
theorem d_X5_cell_35 : decode m_X5_cell.2.1 35 = .ok (.iconst 1, 1) := by decide +kernel
theorem d_X5_cell_36 : decode m_X5_cell.2.1 36 = .ok (.invokestatic 58, 3) := by decide +kernel
theorem d_X5_cell_39 : decode m_X5_cell.2.1 39 = .ok (.istore 5, 2) := by decide +kernel
theorem d_X5_cell_41 : decode m_X5_cell.2.1 41 = .ok (.iload 5, 2) := by decide +kernel
theorem d_X5_cell_43 : decode m_X5_cell.2.1 43 = .ok (.ifCond .eq 13, 3) := by decide +kernel
theorem d_X5_cell_46 : decode m_X5_cell.2.1 46 = .ok (.aload_n 0, 1) := by decide +kernel
theorem d_X5_cell_47 : decode m_X5_cell.2.1 47 = .ok (.iload 5, 2) := by decide +kernel
theorem d_X5_cell_49 : decode m_X5_cell.2.1 49 = .ok (.putfield 47, 3) := by decide +kernel
theorem d_X5_cell_52 : decode m_X5_cell.2.1 52 = .ok (.ldc2_w 201, 3) := by decide +kernel
theorem d_X5_cell_55 : decode m_X5_cell.2.1 55 = .ok (.lreturn, 1) := by decide +kernel
theorem d_X5_cell_56 : decode m_X5_cell.2.1 56 = .ok (.aload 4, 2) := by decide +kernel
theorem d_X5_cell_58 : decode m_X5_cell.2.1 58 = .ok (.getfield 213, 3) := by decide +kernel
theorem d_X5_cell_61 : decode m_X5_cell.2.1 61 = .ok (.iload_n 2, 1) := by decide +kernel
theorem d_X5_cell_62 : decode m_X5_cell.2.1 62 = .ok (.iaload, 1) := by decide +kernel
theorem d_X5_cell_63 : decode m_X5_cell.2.1 63 = .ok (.i2l, 1) := by decide +kernel
theorem d_X5_cell_64 : decode m_X5_cell.2.1 64 = .ok (.lreturn, 1) := by decide +kernel
theorem d_X5_copy_0 : decode m_X5_copy.2.1 0 = .ok (.aload_n 0, 1) := by decide +kernel
theorem d_X5_copy_1 : decode m_X5_copy.2.1 1 = .ok (.iconst 0, 1) := by decide +kernel
theorem d_X5_copy_2 : decode m_X5_copy.2.1 2 = .ok (.putfield 47, 3) := by decide +kernel
theorem d_X5_copy_5 : decode m_X5_copy.2.1 5 = .ok (.iload_n 1, 1) := by decide +kernel
theorem d_X5_copy_6 : decode m_X5_copy.2.1 6 = .ok (.invokestatic 51, 3) := by decide +kernel
theorem d_X5_copy_9 : decode m_X5_copy.2.1 9 = .ok (.ifCond .eq 10, 3) := by decide +kernel
theorem d_X5_copy_12 : decode m_X5_copy.2.1 12 = .ok (.iload_n 3, 1) := by decide +kernel
theorem d_X5_copy_13 : decode m_X5_copy.2.1 13 = .ok (.invokestatic 51, 3) := by decide +kernel
theorem d_X5_copy_16 : decode m_X5_copy.2.1 16 = .ok (.ifCond .ne 5, 3) := by decide +kernel
theorem d_X5_copy_19 : decode m_X5_copy.2.1 19 = .ok (.iconst (-1), 1) := by decide +kernel
theorem d_X5_copy_20 : decode m_X5_copy.2.1 20 = .ok (.ireturn, 1) := by decide +kernel
theorem d_X5_copy_21 : decode m_X5_copy.2.1 21 = .ok (.aload_n 0, 1) := by decide +kernel
theorem d_X5_copy_22 : decode m_X5_copy.2.1 22 = .ok (.getfield 23, 3) := by decide +kernel
theorem d_X5_copy_25 : decode m_X5_copy.2.1 25 = .ok (.iload_n 1, 1) := by decide +kernel
theorem d_X5_copy_26 : decode m_X5_copy.2.1 26 = .ok (.aaload, 1) := by decide +kernel
theorem d_X5_copy_27 : decode m_X5_copy.2.1 27 = .ok (.astore 6, 2) := by decide +kernel
theorem d_X5_copy_29 : decode m_X5_copy.2.1 29 = .ok (.aload_n 0, 1) := by decide +kernel
theorem d_X5_copy_30 : decode m_X5_copy.2.1 30 = .ok (.getfield 23, 3) := by decide +kernel
theorem d_X5_copy_33 : decode m_X5_copy.2.1 33 = .ok (.iload_n 3, 1) := by decide +kernel
theorem d_X5_copy_34 : decode m_X5_copy.2.1 34 = .ok (.aaload, 1) := by decide +kernel
theorem d_X5_copy_35 : decode m_X5_copy.2.1 35 = .ok (.astore 7, 2) := by decide +kernel
theorem d_X5_copy_37 : decode m_X5_copy.2.1 37 = .ok (.aload 6, 2) := by decide +kernel
theorem d_X5_copy_39 : decode m_X5_copy.2.1 39 = .ok (.getfield 207, 3) := by decide +kernel
theorem d_X5_copy_42 : decode m_X5_copy.2.1 42 = .ok (.ifCond .eq 11, 3) := by decide +kernel
theorem d_X5_copy_45 : decode m_X5_copy.2.1 45 = .ok (.aload 7, 2) := by decide +kernel
theorem d_X5_copy_47 : decode m_X5_copy.2.1 47 = .ok (.getfield 207, 3) := by decide +kernel
theorem d_X5_copy_50 : decode m_X5_copy.2.1 50 = .ok (.ifCond .ne 9, 3) := by decide +kernel
theorem d_X5_copy_53 : decode m_X5_copy.2.1 53 = .ok (.aload_n 0, 1) := by decide +kernel
theorem d_X5_copy_54 : decode m_X5_copy.2.1 54 = .ok (.iconst 1, 1) := by decide +kernel
theorem d_X5_copy_55 : decode m_X5_copy.2.1 55 = .ok (.invokevirtual 62, 3) := by decide +kernel
theorem d_X5_copy_58 : decode m_X5_copy.2.1 58 = .ok (.ireturn, 1) := by decide +kernel
theorem d_X5_copy_59 : decode m_X5_copy.2.1 59 = .ok (.aload 6, 2) := by decide +kernel
theorem d_X5_copy_61 : decode m_X5_copy.2.1 61 = .ok (.getfield 219, 3) := by decide +kernel
theorem d_X5_copy_64 : decode m_X5_copy.2.1 64 = .ok (.aload 7, 2) := by decide +kernel
theorem d_X5_copy_66 : decode m_X5_copy.2.1 66 = .ok (.getfield 219, 3) := by decide +kernel
theorem d_X5_copy_69 : decode m_X5_copy.2.1 69 = .ok (.if_icmp .eq 9, 3) := by decide +kernel
theorem d_X5_copy_72 : decode m_X5_copy.2.1 72 = .ok (.aload_n 0, 1) := by decide +kernel
theorem d_X5_copy_73 : decode m_X5_copy.2.1 73 = .ok (.iconst 2, 1) := by decide +kernel
theorem d_X5_copy_74 : decode m_X5_copy.2.1 74 = .ok (.invokevirtual 62, 3) := by decide +kernel
theorem d_X5_copy_77 : decode m_X5_copy.2.1 77 = .ok (.ireturn, 1) := by decide +kernel
theorem d_X5_copy_78 : decode m_X5_copy.2.1 78 = .ok (.aload 6, 2) := by decide +kernel
theorem d_X5_copy_80 : decode m_X5_copy.2.1 80 = .ok (.iload_n 2, 1) := by decide +kernel
theorem d_X5_copy_81 : decode m_X5_copy.2.1 81 = .ok (.iload 5, 2) := by decide +kernel
theorem d_X5_copy_83 : decode m_X5_copy.2.1 83 = .ok (.invokevirtual 210, 3) := by decide +kernel
theorem d_X5_copy_86 : decode m_X5_copy.2.1 86 = .ok (.ifCond .eq 15, 3) := by decide +kernel
theorem d_X5_copy_89 : decode m_X5_copy.2.1 89 = .ok (.aload 7, 2) := by decide +kernel
theorem d_X5_copy_91 : decode m_X5_copy.2.1 91 = .ok (.iload 4, 2) := by decide +kernel
theorem d_X5_copy_93 : decode m_X5_copy.2.1 93 = .ok (.iload 5, 2) := by decide +kernel
theorem d_X5_copy_95 : decode m_X5_copy.2.1 95 = .ok (.invokevirtual 210, 3) := by decide +kernel
theorem d_X5_copy_98 : decode m_X5_copy.2.1 98 = .ok (.ifCond .ne 9, 3) := by decide +kernel
theorem d_X5_copy_101 : decode m_X5_copy.2.1 101 = .ok (.aload_n 0, 1) := by decide +kernel
theorem d_X5_copy_102 : decode m_X5_copy.2.1 102 = .ok (.iconst 3, 1) := by decide +kernel
theorem d_X5_copy_103 : decode m_X5_copy.2.1 103 = .ok (.invokevirtual 62, 3) := by decide +kernel
theorem d_X5_copy_106 : decode m_X5_copy.2.1 106 = .ok (.ireturn, 1) := by decide +kernel
theorem d_X5_copy_107 : decode m_X5_copy.2.1 107 = .ok (.aload 6, 2) := by decide +kernel
theorem d_X5_copy_109 : decode m_X5_copy.2.1 109 = .ok (.getfield 213, 3) := by decide +kernel
theorem d_X5_copy_112 : decode m_X5_copy.2.1 112 = .ok (.iload_n 2, 1) := by decide +kernel
theorem d_X5_copy_113 : decode m_X5_copy.2.1 113 = .ok (.aload 7, 2) := by decide +kernel
theorem d_X5_copy_115 : decode m_X5_copy.2.1 115 = .ok (.getfield 213, 3) := by decide +kernel
theorem d_X5_copy_118 : decode m_X5_copy.2.1 118 = .ok (.iload 4, 2) := by decide +kernel
theorem d_X5_copy_120 : decode m_X5_copy.2.1 120 = .ok (.iload 5, 2) := by decide +kernel
theorem d_X5_copy_122 : decode m_X5_copy.2.1 122 = .ok (.invokestatic 222, 3) := by decide +kernel
theorem d_X5_copy_125 : decode m_X5_copy.2.1 125 = .ok (.iload 5, 2) := by decide +kernel
theorem d_X5_copy_127 : decode m_X5_copy.2.1 127 = .ok (.ireturn, 1) := by decide +kernel
theorem d_X5_tell_0 : decode m_X5_tell.2.1 0 = .ok (.aload_n 0, 1) := by decide +kernel
theorem d_X5_tell_1 : decode m_X5_tell.2.1 1 = .ok (.getfield 12, 3) := by decide +kernel
theorem d_X5_tell_4 : decode m_X5_tell.2.1 4 = .ok (.iload_n 1, 1) := by decide +kernel
theorem d_X5_tell_5 : decode m_X5_tell.2.1 5 = .ok (.invokevirtual 77, 3) := by decide +kernel
theorem d_X5_tell_8 : decode m_X5_tell.2.1 8 = .ok (.ifCond .ne 5, 3) := by decide +kernel
theorem d_X5_tell_11 : decode m_X5_tell.2.1 11 = .ok (.iconst (-1), 1) := by decide +kernel
theorem d_X5_tell_12 : decode m_X5_tell.2.1 12 = .ok (.ireturn, 1) := by decide +kernel
theorem d_X5_tell_13 : decode m_X5_tell.2.1 13 = .ok (.aload_n 0, 1) := by decide +kernel
theorem d_X5_tell_14 : decode m_X5_tell.2.1 14 = .ok (.getfield 12, 3) := by decide +kernel
theorem d_X5_tell_17 : decode m_X5_tell.2.1 17 = .ok (.getfield 80, 3) := by decide +kernel
theorem d_X5_tell_20 : decode m_X5_tell.2.1 20 = .ok (.iload_n 1, 1) := by decide +kernel
theorem d_X5_tell_21 : decode m_X5_tell.2.1 21 = .ok (.aaload, 1) := by decide +kernel
theorem d_X5_tell_22 : decode m_X5_tell.2.1 22 = .ok (.astore_n 2, 1) := by decide +kernel
theorem d_X5_tell_23 : decode m_X5_tell.2.1 23 = .ok (.aload_n 2, 1) := by decide +kernel
theorem d_X5_tell_24 : decode m_X5_tell.2.1 24 = .ok (.getfield 84, 3) := by decide +kernel
theorem d_X5_tell_27 : decode m_X5_tell.2.1 27 = .ok (.lookupswitch 37 #[(1, 31), (2, 25)], 25) := by decide +kernel
theorem d_X5_tell_52 : decode m_X5_tell.2.1 52 = .ok (.aload_n 0, 1) := by decide +kernel
theorem d_X5_tell_53 : decode m_X5_tell.2.1 53 = .ok (.aload_n 2, 1) := by decide +kernel
theorem d_X5_tell_54 : decode m_X5_tell.2.1 54 = .ok (.invokevirtual 228, 3) := by decide +kernel
theorem d_X5_tell_57 : decode m_X5_tell.2.1 57 = .ok (.ireturn, 1) := by decide +kernel
theorem d_X5_tell_58 : decode m_X5_tell.2.1 58 = .ok (.aload_n 0, 1) := by decide +kernel
theorem d_X5_tell_59 : decode m_X5_tell.2.1 59 = .ok (.aload_n 2, 1) := by decide +kernel
theorem d_X5_tell_60 : decode m_X5_tell.2.1 60 = .ok (.invokevirtual 232, 3) := by decide +kernel
theorem d_X5_tell_63 : decode m_X5_tell.2.1 63 = .ok (.ireturn, 1) := by decide +kernel
theorem d_X5_tell_64 : decode m_X5_tell.2.1 64 = .ok (.aload_n 0, 1) := by decide +kernel
theorem d_X5_tell_65 : decode m_X5_tell.2.1 65 = .ok (.aload_n 2, 1) := by decide +kernel
theorem d_X5_tell_66 : decode m_X5_tell.2.1 66 = .ok (.invokevirtual 235, 3) := by decide +kernel
theorem d_X5_tell_69 : decode m_X5_tell.2.1 69 = .ok (.ireturn, 1) := by decide +kernel
theorem d_X5_knock_0 : decode m_X5_knock.2.1 0 = .ok (.aload_n 0, 1) := by decide +kernel
theorem d_X5_knock_1 : decode m_X5_knock.2.1 1 = .ok (.getfield 12, 3) := by decide +kernel
theorem d_X5_knock_4 : decode m_X5_knock.2.1 4 = .ok (.iload_n 1, 1) := by decide +kernel
theorem d_X5_knock_5 : decode m_X5_knock.2.1 5 = .ok (.invokevirtual 77, 3) := by decide +kernel
theorem d_X5_knock_8 : decode m_X5_knock.2.1 8 = .ok (.ifCond .ne 5, 3) := by decide +kernel
theorem d_X5_knock_11 : decode m_X5_knock.2.1 11 = .ok (.iconst (-1), 1) := by decide +kernel
theorem d_X5_knock_12 : decode m_X5_knock.2.1 12 = .ok (.ireturn, 1) := by decide +kernel
theorem d_X5_knock_13 : decode m_X5_knock.2.1 13 = .ok (.aload_n 0, 1) := by decide +kernel
theorem d_X5_knock_14 : decode m_X5_knock.2.1 14 = .ok (.getfield 12, 3) := by decide +kernel
theorem d_X5_knock_17 : decode m_X5_knock.2.1 17 = .ok (.getfield 80, 3) := by decide +kernel
theorem d_X5_knock_20 : decode m_X5_knock.2.1 20 = .ok (.iload_n 1, 1) := by decide +kernel
theorem d_X5_knock_21 : decode m_X5_knock.2.1 21 = .ok (.aaload, 1) := by decide +kernel
theorem d_X5_knock_22 : decode m_X5_knock.2.1 22 = .ok (.astore_n 2, 1) := by decide +kernel
theorem d_X5_knock_23 : decode m_X5_knock.2.1 23 = .ok (.aload_n 2, 1) := by decide +kernel
theorem d_X5_knock_24 : decode m_X5_knock.2.1 24 = .ok (.getfield 84, 3) := by decide +kernel
theorem d_X5_knock_27 : decode m_X5_knock.2.1 27 = .ok (.iconst 2, 1) := by decide +kernel
theorem d_X5_knock_28 : decode m_X5_knock.2.1 28 = .ok (.if_icmp .ne 10, 3) := by decide +kernel
theorem d_X5_knock_31 : decode m_X5_knock.2.1 31 = .ok (.aload_n 0, 1) := by decide +kernel
theorem d_X5_knock_32 : decode m_X5_knock.2.1 32 = .ok (.invokevirtual 238, 3) := by decide +kernel
theorem d_X5_knock_35 : decode m_X5_knock.2.1 35 = .ok (.goto 8, 3) := by decide +kernel
theorem d_X5_knock_38 : decode m_X5_knock.2.1 38 = .ok (.aload_n 0, 1) := by decide +kernel
theorem d_X5_knock_39 : decode m_X5_knock.2.1 39 = .ok (.aload_n 2, 1) := by decide +kernel
theorem d_X5_knock_40 : decode m_X5_knock.2.1 40 = .ok (.invokevirtual 241, 3) := by decide +kernel
theorem d_X5_knock_43 : decode m_X5_knock.2.1 43 = .ok (.ireturn, 1) := by decide +kernel
theorem d_X5_as_0 : decode m_X5_as.2.1 0 = .ok (.aload_n 0, 1) := by decide +kernel
theorem d_X5_as_1 : decode m_X5_as.2.1 1 = .ok (.iconst 0, 1) := by decide +kernel
theorem d_X5_as_2 : decode m_X5_as.2.1 2 = .ok (.putfield 47, 3) := by decide +kernel
theorem d_X5_as_5 : decode m_X5_as.2.1 5 = .ok (.aload_n 0, 1) := by decide +kernel
theorem d_X5_as_6 : decode m_X5_as.2.1 6 = .ok (.getfield 12, 3) := by decide +kernel
theorem d_X5_as_9 : decode m_X5_as.2.1 9 = .ok (.iload_n 1, 1) := by decide +kernel
theorem d_X5_as_10 : decode m_X5_as.2.1 10 = .ok (.invokevirtual 77, 3) := by decide +kernel
theorem d_X5_as_13 : decode m_X5_as.2.1 13 = .ok (.ifCond .ne 5, 3) := by decide +kernel
theorem d_X5_as_16 : decode m_X5_as.2.1 16 = .ok (.iconst (-1), 1) := by decide +kernel
theorem d_X5_as_17 : decode m_X5_as.2.1 17 = .ok (.ireturn, 1) := by decide +kernel
theorem d_X5_as_18 : decode m_X5_as.2.1 18 = .ok (.iload_n 2, 1) := by decide +kernel
theorem d_X5_as_19 : decode m_X5_as.2.1 19 = .ok (.iconst 0, 1) := by decide +kernel
theorem d_X5_as_20 : decode m_X5_as.2.1 20 = .ok (.iconst 2, 1) := by decide +kernel
theorem d_X5_as_21 : decode m_X5_as.2.1 21 = .ok (.invokestatic 125, 3) := by decide +kernel
theorem d_X5_as_24 : decode m_X5_as.2.1 24 = .ok (.ifCond .ne 6, 3) := by decide +kernel
theorem d_X5_as_27 : decode m_X5_as.2.1 27 = .ok (.bipush (-2), 2) := by decide +kernel
theorem d_X5_as_29 : decode m_X5_as.2.1 29 = .ok (.ireturn, 1) := by decide +kernel
theorem d_X5_as_30 : decode m_X5_as.2.1 30 = .ok (.iload_n 2, 1) := by decide +kernel
theorem d_X5_as_31 : decode m_X5_as.2.1 31 = .ok (.aload_n 0, 1) := by decide +kernel
theorem d_X5_as_32 : decode m_X5_as.2.1 32 = .ok (.getfield 12, 3) := by decide +kernel
theorem d_X5_as_35 : decode m_X5_as.2.1 35 = .ok (.getfield 80, 3) := by decide +kernel
theorem d_X5_as_38 : decode m_X5_as.2.1 38 = .ok (.iload_n 1, 1) := by decide +kernel
theorem d_X5_as_39 : decode m_X5_as.2.1 39 = .ok (.aaload, 1) := by decide +kernel
theorem d_X5_as_40 : decode m_X5_as.2.1 40 = .ok (.getfield 84, 3) := by decide +kernel
theorem d_X5_as_43 : decode m_X5_as.2.1 43 = .ok (.if_icmp .gt 7, 3) := by decide +kernel
theorem d_X5_as_46 : decode m_X5_as.2.1 46 = .ok (.iconst 1, 1) := by decide +kernel
theorem d_X5_as_47 : decode m_X5_as.2.1 47 = .ok (.goto 8, 3) := by decide +kernel
theorem d_X5_as_50 : decode m_X5_as.2.1 50 = .ok (.aload_n 0, 1) := by decide +kernel
theorem d_X5_as_51 : decode m_X5_as.2.1 51 = .ok (.iconst 2, 1) := by decide +kernel
theorem d_X5_as_52 : decode m_X5_as.2.1 52 = .ok (.invokevirtual 62, 3) := by decide +kernel
theorem d_X5_as_55 : decode m_X5_as.2.1 55 = .ok (.ireturn, 1) := by decide +kernel
theorem d_X5_trace_0 : decode m_X5_trace.2.1 0 = .ok (.aload_n 0, 1) := by decide +kernel
theorem d_X5_trace_1 : decode m_X5_trace.2.1 1 = .ok (.getfield 44, 3) := by decide +kernel
theorem d_X5_trace_4 : decode m_X5_trace.2.1 4 = .ok (.ireturn, 1) := by decide +kernel
theorem d_X5_fault_0 : decode m_X5_fault.2.1 0 = .ok (.aload_n 0, 1) := by decide +kernel
theorem d_X5_fault_1 : decode m_X5_fault.2.1 1 = .ok (.getfield 47, 3) := by decide +kernel
theorem d_X5_fault_4 : decode m_X5_fault.2.1 4 = .ok (.ireturn, 1) := by decide +kernel
theorem d_X5_many_0 : decode m_X5_many.2.1 0 = .ok (.iload_n 1, 1) := by decide +kernel
theorem d_X5_many_1 : decode m_X5_many.2.1 1 = .ok (.tableswitch 93 0 6 #[43, 51, 59, 64, 72, 77, 85], 43) := by decide +kernel
theorem d_X5_many_44 : decode m_X5_many.2.1 44 = .ok (.aload_n 0, 1) := by decide +kernel
theorem d_X5_many_45 : decode m_X5_many.2.1 45 = .ok (.getfield 12, 3) := by decide +kernel
theorem d_X5_many_48 : decode m_X5_many.2.1 48 = .ok (.getfield 74, 3) := by decide +kernel
theorem d_X5_many_51 : decode m_X5_many.2.1 51 = .ok (.ireturn, 1) := by decide +kernel
theorem d_X5_many_52 : decode m_X5_many.2.1 52 = .ok (.aload_n 0, 1) := by decide +kernel
theorem d_X5_many_53 : decode m_X5_many.2.1 53 = .ok (.getfield 12, 3) := by decide +kernel
theorem d_X5_many_56 : decode m_X5_many.2.1 56 = .ok (.getfield 244, 3) := by decide +kernel
theorem d_X5_many_59 : decode m_X5_many.2.1 59 = .ok (.ireturn, 1) := by decide +kernel
theorem d_X5_many_60 : decode m_X5_many.2.1 60 = .ok (.aload_n 0, 1) := by decide +kernel
theorem d_X5_many_61 : decode m_X5_many.2.1 61 = .ok (.getfield 41, 3) := by decide +kernel
theorem d_X5_many_64 : decode m_X5_many.2.1 64 = .ok (.ireturn, 1) := by decide +kernel
theorem d_X5_many_65 : decode m_X5_many.2.1 65 = .ok (.aload_n 0, 1) := by decide +kernel
theorem d_X5_many_66 : decode m_X5_many.2.1 66 = .ok (.getfield 12, 3) := by decide +kernel
theorem d_X5_many_69 : decode m_X5_many.2.1 69 = .ok (.invokevirtual 158, 3) := by decide +kernel
theorem d_X5_many_72 : decode m_X5_many.2.1 72 = .ok (.ireturn, 1) := by decide +kernel
theorem d_X5_many_73 : decode m_X5_many.2.1 73 = .ok (.aload_n 0, 1) := by decide +kernel
theorem d_X5_many_74 : decode m_X5_many.2.1 74 = .ok (.getfield 37, 3) := by decide +kernel
theorem d_X5_many_77 : decode m_X5_many.2.1 77 = .ok (.ireturn, 1) := by decide +kernel
theorem d_X5_many_78 : decode m_X5_many.2.1 78 = .ok (.aload_n 0, 1) := by decide +kernel
theorem d_X5_many_79 : decode m_X5_many.2.1 79 = .ok (.getfield 12, 3) := by decide +kernel
theorem d_X5_many_82 : decode m_X5_many.2.1 82 = .ok (.getfield 155, 3) := by decide +kernel
theorem d_X5_many_85 : decode m_X5_many.2.1 85 = .ok (.ireturn, 1) := by decide +kernel
theorem d_X5_many_86 : decode m_X5_many.2.1 86 = .ok (.aload_n 0, 1) := by decide +kernel
theorem d_X5_many_87 : decode m_X5_many.2.1 87 = .ok (.getfield 12, 3) := by decide +kernel
theorem d_X5_many_90 : decode m_X5_many.2.1 90 = .ok (.invokevirtual 132, 3) := by decide +kernel
theorem d_X5_many_93 : decode m_X5_many.2.1 93 = .ok (.ireturn, 1) := by decide +kernel
theorem d_X5_many_94 : decode m_X5_many.2.1 94 = .ok (.bipush (-2), 2) := by decide +kernel
theorem d_X5_many_96 : decode m_X5_many.2.1 96 = .ok (.ireturn, 1) := by decide +kernel
theorem d_X5_isWithin_0 : decode m_X5_isWithin.2.1 0 = .ok (.iload_n 0, 1) := by decide +kernel
theorem d_X5_isWithin_1 : decode m_X5_isWithin.2.1 1 = .ok (.iload_n 1, 1) := by decide +kernel
theorem d_X5_isWithin_2 : decode m_X5_isWithin.2.1 2 = .ok (.if_icmp .lt 12, 3) := by decide +kernel
theorem d_X5_isWithin_5 : decode m_X5_isWithin.2.1 5 = .ok (.iload_n 0, 1) := by decide +kernel
theorem d_X5_isWithin_6 : decode m_X5_isWithin.2.1 6 = .ok (.iload_n 2, 1) := by decide +kernel
theorem d_X5_isWithin_7 : decode m_X5_isWithin.2.1 7 = .ok (.if_icmp .gt 7, 3) := by decide +kernel
theorem d_X5_isWithin_10 : decode m_X5_isWithin.2.1 10 = .ok (.iconst 1, 1) := by decide +kernel
theorem d_X5_isWithin_11 : decode m_X5_isWithin.2.1 11 = .ok (.goto 4, 3) := by decide +kernel
theorem d_X5_isWithin_14 : decode m_X5_isWithin.2.1 14 = .ok (.iconst 0, 1) := by decide +kernel
theorem d_X5_isWithin_15 : decode m_X5_isWithin.2.1 15 = .ok (.ireturn, 1) := by decide +kernel
theorem d_X5_isSheet_0 : decode m_X5_isSheet.2.1 0 = .ok (.iload_n 0, 1) := by decide +kernel
theorem d_X5_isSheet_1 : decode m_X5_isSheet.2.1 1 = .ok (.iconst 0, 1) := by decide +kernel
theorem d_X5_isSheet_2 : decode m_X5_isSheet.2.1 2 = .ok (.iconst 3, 1) := by decide +kernel
theorem d_X5_isSheet_3 : decode m_X5_isSheet.2.1 3 = .ok (.invokestatic 125, 3) := by decide +kernel
theorem d_X5_isSheet_6 : decode m_X5_isSheet.2.1 6 = .ok (.ireturn, 1) := by decide +kernel
theorem d_X5_isLane_0 : decode m_X5_isLane.2.1 0 = .ok (.iload_n 0, 1) := by decide +kernel
theorem d_X5_isLane_1 : decode m_X5_isLane.2.1 1 = .ok (.iconst 0, 1) := by decide +kernel
theorem d_X5_isLane_2 : decode m_X5_isLane.2.1 2 = .ok (.iconst 2, 1) := by decide +kernel
theorem d_X5_isLane_3 : decode m_X5_isLane.2.1 3 = .ok (.invokestatic 125, 3) := by decide +kernel
theorem d_X5_isLane_6 : decode m_X5_isLane.2.1 6 = .ok (.ireturn, 1) := by decide +kernel
theorem d_X5_isAskedOfDay_0 : decode m_X5_isAskedOfDay.2.1 0 = .ok (.iload_n 0, 1) := by decide +kernel
theorem d_X5_isAskedOfDay_1 : decode m_X5_isAskedOfDay.2.1 1 = .ok (.iconst 0, 1) := by decide +kernel
theorem d_X5_isAskedOfDay_2 : decode m_X5_isAskedOfDay.2.1 2 = .ok (.iconst 4, 1) := by decide +kernel
theorem d_X5_isAskedOfDay_3 : decode m_X5_isAskedOfDay.2.1 3 = .ok (.invokestatic 125, 3) := by decide +kernel
theorem d_X5_isAskedOfDay_6 : decode m_X5_isAskedOfDay.2.1 6 = .ok (.ifCond .ne 14, 3) := by decide +kernel
theorem d_X5_isAskedOfDay_9 : decode m_X5_isAskedOfDay.2.1 9 = .ok (.iload_n 0, 1) := by decide +kernel
theorem d_X5_isAskedOfDay_10 : decode m_X5_isAskedOfDay.2.1 10 = .ok (.bipush 10, 2) := by decide +kernel
theorem d_X5_isAskedOfDay_12 : decode m_X5_isAskedOfDay.2.1 12 = .ok (.bipush 14, 2) := by decide +kernel
theorem d_X5_isAskedOfDay_14 : decode m_X5_isAskedOfDay.2.1 14 = .ok (.invokestatic 125, 3) := by decide +kernel
theorem d_X5_isAskedOfDay_17 : decode m_X5_isAskedOfDay.2.1 17 = .ok (.ifCond .eq 7, 3) := by decide +kernel
theorem d_X5_isAskedOfDay_20 : decode m_X5_isAskedOfDay.2.1 20 = .ok (.iconst 1, 1) := by decide +kernel
theorem d_X5_isAskedOfDay_21 : decode m_X5_isAskedOfDay.2.1 21 = .ok (.goto 4, 3) := by decide +kernel
theorem d_X5_isAskedOfDay_24 : decode m_X5_isAskedOfDay.2.1 24 = .ok (.iconst 0, 1) := by decide +kernel
theorem d_X5_isAskedOfDay_25 : decode m_X5_isAskedOfDay.2.1 25 = .ok (.ireturn, 1) := by decide +kernel
theorem d_X5_hasParish_0 : decode m_X5_hasParish.2.1 0 = .ok (.aload_n 0, 1) := by decide +kernel
theorem d_X5_hasParish_1 : decode m_X5_hasParish.2.1 1 = .ok (.getfield 12, 3) := by decide +kernel
theorem d_X5_hasParish_4 : decode m_X5_hasParish.2.1 4 = .ok (.getfield 74, 3) := by decide +kernel
theorem d_X5_hasParish_7 : decode m_X5_hasParish.2.1 7 = .ok (.ifCond .le 7, 3) := by decide +kernel
theorem d_X5_hasParish_10 : decode m_X5_hasParish.2.1 10 = .ok (.iconst 1, 1) := by decide +kernel
theorem d_X5_hasParish_11 : decode m_X5_hasParish.2.1 11 = .ok (.goto 4, 3) := by decide +kernel
theorem d_X5_hasParish_14 : decode m_X5_hasParish.2.1 14 = .ok (.iconst 0, 1) := by decide +kernel
theorem d_X5_hasParish_15 : decode m_X5_hasParish.2.1 15 = .ok (.ireturn, 1) := by decide +kernel
theorem d_X5_faulted_0 : decode m_X5_faulted.2.1 0 = .ok (.aload_n 0, 1) := by decide +kernel
theorem d_X5_faulted_1 : decode m_X5_faulted.2.1 1 = .ok (.iload_n 1, 1) := by decide +kernel
theorem d_X5_faulted_2 : decode m_X5_faulted.2.1 2 = .ok (.putfield 47, 3) := by decide +kernel
theorem d_X5_faulted_5 : decode m_X5_faulted.2.1 5 = .ok (.bipush (-10), 2) := by decide +kernel
theorem d_X5_faulted_7 : decode m_X5_faulted.2.1 7 = .ok (.iload_n 1, 1) := by decide +kernel
theorem d_X5_faulted_8 : decode m_X5_faulted.2.1 8 = .ok (.isub, 1) := by decide +kernel
theorem d_X5_faulted_9 : decode m_X5_faulted.2.1 9 = .ok (.ireturn, 1) := by decide +kernel
theorem d_X5_faultOfCells_0 : decode m_X5_faultOfCells.2.1 0 = .ok (.aload_n 0, 1) := by decide +kernel
theorem d_X5_faultOfCells_1 : decode m_X5_faultOfCells.2.1 1 = .ok (.getfield 207, 3) := by decide +kernel
theorem d_X5_faultOfCells_4 : decode m_X5_faultOfCells.2.1 4 = .ok (.ifCond .ne 5, 3) := by decide +kernel
theorem d_X5_faultOfCells_7 : decode m_X5_faultOfCells.2.1 7 = .ok (.iconst 1, 1) := by decide +kernel
theorem d_X5_faultOfCells_8 : decode m_X5_faultOfCells.2.1 8 = .ok (.ireturn, 1) := by decide +kernel
theorem d_X5_faultOfCells_9 : decode m_X5_faultOfCells.2.1 9 = .ok (.aload_n 0, 1) := by decide +kernel
theorem d_X5_faultOfCells_10 : decode m_X5_faultOfCells.2.1 10 = .ok (.getfield 219, 3) := by decide +kernel
theorem d_X5_faultOfCells_13 : decode m_X5_faultOfCells.2.1 13 = .ok (.iload_n 1, 1) := by decide +kernel
theorem d_X5_faultOfCells_14 : decode m_X5_faultOfCells.2.1 14 = .ok (.if_icmp .eq 5, 3) := by decide +kernel
theorem d_X5_faultOfCells_17 : decode m_X5_faultOfCells.2.1 17 = .ok (.iconst 2, 1) := by decide +kernel
theorem d_X5_faultOfCells_18 : decode m_X5_faultOfCells.2.1 18 = .ok (.ireturn, 1) := by decide +kernel
theorem d_X5_faultOfCells_19 : decode m_X5_faultOfCells.2.1 19 = .ok (.iload_n 3, 1) := by decide +kernel
theorem d_X5_faultOfCells_20 : decode m_X5_faultOfCells.2.1 20 = .ok (.ifCond .ge 5, 3) := by decide +kernel
theorem d_X5_faultOfCells_23 : decode m_X5_faultOfCells.2.1 23 = .ok (.iconst 4, 1) := by decide +kernel
theorem d_X5_faultOfCells_24 : decode m_X5_faultOfCells.2.1 24 = .ok (.ireturn, 1) := by decide +kernel
theorem d_X5_faultOfCells_25 : decode m_X5_faultOfCells.2.1 25 = .ok (.aload_n 0, 1) := by decide +kernel
theorem d_X5_faultOfCells_26 : decode m_X5_faultOfCells.2.1 26 = .ok (.iload_n 2, 1) := by decide +kernel
theorem d_X5_faultOfCells_27 : decode m_X5_faultOfCells.2.1 27 = .ok (.iload_n 3, 1) := by decide +kernel
theorem d_X5_faultOfCells_28 : decode m_X5_faultOfCells.2.1 28 = .ok (.invokevirtual 210, 3) := by decide +kernel
theorem d_X5_faultOfCells_31 : decode m_X5_faultOfCells.2.1 31 = .ok (.ifCond .eq 7, 3) := by decide +kernel
theorem d_X5_faultOfCells_34 : decode m_X5_faultOfCells.2.1 34 = .ok (.iconst 0, 1) := by decide +kernel
theorem d_X5_faultOfCells_35 : decode m_X5_faultOfCells.2.1 35 = .ok (.goto 4, 3) := by decide +kernel
theorem d_X5_faultOfCells_38 : decode m_X5_faultOfCells.2.1 38 = .ok (.iconst 3, 1) := by decide +kernel
theorem d_X5_faultOfCells_39 : decode m_X5_faultOfCells.2.1 39 = .ok (.ireturn, 1) := by decide +kernel
theorem d_X5_firstFaultOfText_0 : decode m_X5_firstFaultOfText.2.1 0 = .ok (.new 247, 3) := by decide +kernel
theorem d_X5_firstFaultOfText_3 : decode m_X5_firstFaultOfText.2.1 3 = .ok (.dup, 1) := by decide +kernel
theorem d_X5_firstFaultOfText_4 : decode m_X5_firstFaultOfText.2.1 4 = .ok (.aload_n 0, 1) := by decide +kernel
theorem d_X5_firstFaultOfText_5 : decode m_X5_firstFaultOfText.2.1 5 = .ok (.getfield 18, 3) := by decide +kernel
theorem d_X5_firstFaultOfText_8 : decode m_X5_firstFaultOfText.2.1 8 = .ok (.invokespecial 249, 3) := by decide +kernel
theorem d_X5_firstFaultOfText_11 : decode m_X5_firstFaultOfText.2.1 11 = .ok (.astore 4, 2) := by decide +kernel
theorem d_X5_firstFaultOfText_13 : decode m_X5_firstFaultOfText.2.1 13 = .ok (.iconst 0, 1) := by decide +kernel
theorem d_X5_firstFaultOfText_14 : decode m_X5_firstFaultOfText.2.1 14 = .ok (.istore 5, 2) := by decide +kernel
theorem d_X5_firstFaultOfText_16 : decode m_X5_firstFaultOfText.2.1 16 = .ok (.iload 5, 2) := by decide +kernel
theorem d_X5_firstFaultOfText_18 : decode m_X5_firstFaultOfText.2.1 18 = .ok (.iload_n 3, 1) := by decide +kernel
theorem d_X5_firstFaultOfText_19 : decode m_X5_firstFaultOfText.2.1 19 = .ok (.if_icmp .ge 29, 3) := by decide +kernel
theorem d_X5_firstFaultOfText_22 : decode m_X5_firstFaultOfText.2.1 22 = .ok (.aload 4, 2) := by decide +kernel
theorem d_X5_firstFaultOfText_24 : decode m_X5_firstFaultOfText.2.1 24 = .ok (.aload_n 1, 1) := by decide +kernel
theorem d_X5_firstFaultOfText_25 : decode m_X5_firstFaultOfText.2.1 25 = .ok (.getfield 213, 3) := by decide +kernel
theorem d_X5_firstFaultOfText_28 : decode m_X5_firstFaultOfText.2.1 28 = .ok (.iload_n 2, 1) := by decide +kernel
theorem d_X5_firstFaultOfText_29 : decode m_X5_firstFaultOfText.2.1 29 = .ok (.iload 5, 2) := by decide +kernel
theorem d_X5_firstFaultOfText_31 : decode m_X5_firstFaultOfText.2.1 31 = .ok (.iadd, 1) := by decide +kernel
theorem d_X5_firstFaultOfText_32 : decode m_X5_firstFaultOfText.2.1 32 = .ok (.iaload, 1) := by decide +kernel
theorem d_X5_firstFaultOfText_33 : decode m_X5_firstFaultOfText.2.1 33 = .ok (.invokevirtual 251, 3) := by decide +kernel
theorem d_X5_firstFaultOfText_36 : decode m_X5_firstFaultOfText.2.1 36 = .ok (.ifCond .ne 6, 3) := by decide +kernel
theorem d_X5_firstFaultOfText_39 : decode m_X5_firstFaultOfText.2.1 39 = .ok (.iload 5, 2) := by decide +kernel
theorem d_X5_firstFaultOfText_41 : decode m_X5_firstFaultOfText.2.1 41 = .ok (.ireturn, 1) := by decide +kernel
theorem d_X5_firstFaultOfText_42 : decode m_X5_firstFaultOfText.2.1 42 = .ok (.iinc 5 1, 3) := by decide +kernel
theorem d_X5_firstFaultOfText_45 : decode m_X5_firstFaultOfText.2.1 45 = .ok (.goto (-29), 3) := by decide +kernel
theorem d_X5_firstFaultOfText_48 : decode m_X5_firstFaultOfText.2.1 48 = .ok (.aload 4, 2) := by decide +kernel
theorem d_X5_firstFaultOfText_50 : decode m_X5_firstFaultOfText.2.1 50 = .ok (.invokevirtual 254, 3) := by decide +kernel
theorem d_X5_firstFaultOfText_53 : decode m_X5_firstFaultOfText.2.1 53 = .ok (.ifCond .eq 8, 3) := by decide +kernel
theorem d_X5_firstFaultOfText_56 : decode m_X5_firstFaultOfText.2.1 56 = .ok (.bipush (-9), 2) := by decide +kernel
theorem d_X5_firstFaultOfText_58 : decode m_X5_firstFaultOfText.2.1 58 = .ok (.goto 4, 3) := by decide +kernel
theorem d_X5_firstFaultOfText_61 : decode m_X5_firstFaultOfText.2.1 61 = .ok (.iload_n 3, 1) := by decide +kernel
theorem d_X5_firstFaultOfText_62 : decode m_X5_firstFaultOfText.2.1 62 = .ok (.ireturn, 1) := by decide +kernel
theorem d_X5_areActs_0 : decode m_X5_areActs.2.1 0 = .ok (.iconst 0, 1) := by decide +kernel
theorem d_X5_areActs_1 : decode m_X5_areActs.2.1 1 = .ok (.istore_n 3, 1) := by decide +kernel
theorem d_X5_areActs_2 : decode m_X5_areActs.2.1 2 = .ok (.iload_n 3, 1) := by decide +kernel
theorem d_X5_areActs_3 : decode m_X5_areActs.2.1 3 = .ok (.iload_n 2, 1) := by decide +kernel
theorem d_X5_areActs_4 : decode m_X5_areActs.2.1 4 = .ok (.if_icmp .ge 28, 3) := by decide +kernel
theorem d_X5_areActs_7 : decode m_X5_areActs.2.1 7 = .ok (.aload_n 0, 1) := by decide +kernel
theorem d_X5_areActs_8 : decode m_X5_areActs.2.1 8 = .ok (.getfield 213, 3) := by decide +kernel
theorem d_X5_areActs_11 : decode m_X5_areActs.2.1 11 = .ok (.iload_n 1, 1) := by decide +kernel
theorem d_X5_areActs_12 : decode m_X5_areActs.2.1 12 = .ok (.iload_n 3, 1) := by decide +kernel
theorem d_X5_areActs_13 : decode m_X5_areActs.2.1 13 = .ok (.iadd, 1) := by decide +kernel
theorem d_X5_areActs_14 : decode m_X5_areActs.2.1 14 = .ok (.iaload, 1) := by decide +kernel
theorem d_X5_areActs_15 : decode m_X5_areActs.2.1 15 = .ok (.iconst 0, 1) := by decide +kernel
theorem d_X5_areActs_16 : decode m_X5_areActs.2.1 16 = .ok (.bipush 14, 2) := by decide +kernel
theorem d_X5_areActs_18 : decode m_X5_areActs.2.1 18 = .ok (.invokestatic 125, 3) := by decide +kernel
theorem d_X5_areActs_21 : decode m_X5_areActs.2.1 21 = .ok (.ifCond .ne 5, 3) := by decide +kernel
theorem d_X5_areActs_24 : decode m_X5_areActs.2.1 24 = .ok (.iconst 0, 1) := by decide +kernel
theorem d_X5_areActs_25 : decode m_X5_areActs.2.1 25 = .ok (.ireturn, 1) := by decide +kernel
theorem d_X5_areActs_26 : decode m_X5_areActs.2.1 26 = .ok (.iinc 3 1, 3) := by decide +kernel
theorem d_X5_areActs_29 : decode m_X5_areActs.2.1 29 = .ok (.goto (-27), 3) := by decide +kernel
theorem d_X5_areActs_32 : decode m_X5_areActs.2.1 32 = .ok (.iconst 1, 1) := by decide +kernel
theorem d_X5_areActs_33 : decode m_X5_areActs.2.1 33 = .ok (.ireturn, 1) := by decide +kernel
theorem d_X5_firstWrongOfDay_0 : decode m_X5_firstWrongOfDay.2.1 0 = .ok (.aload_n 0, 1) := by decide +kernel
theorem d_X5_firstWrongOfDay_1 : decode m_X5_firstWrongOfDay.2.1 1 = .ok (.getfield 18, 3) := by decide +kernel
theorem d_X5_firstWrongOfDay_4 : decode m_X5_firstWrongOfDay.2.1 4 = .ok (.aload_n 0, 1) := by decide +kernel
theorem d_X5_firstWrongOfDay_5 : decode m_X5_firstWrongOfDay.2.1 5 = .ok (.getfield 12, 3) := by decide +kernel
theorem d_X5_firstWrongOfDay_8 : decode m_X5_firstWrongOfDay.2.1 8 = .ok (.invokevirtual 70, 3) := by decide +kernel
theorem d_X5_firstWrongOfDay_11 : decode m_X5_firstWrongOfDay.2.1 11 = .ok (.iconst 0, 1) := by decide +kernel
theorem d_X5_firstWrongOfDay_12 : decode m_X5_firstWrongOfDay.2.1 12 = .ok (.istore 4, 2) := by decide +kernel
theorem d_X5_firstWrongOfDay_14 : decode m_X5_firstWrongOfDay.2.1 14 = .ok (.iload 4, 2) := by decide +kernel
theorem d_X5_firstWrongOfDay_16 : decode m_X5_firstWrongOfDay.2.1 16 = .ok (.iload_n 3, 1) := by decide +kernel
theorem d_X5_firstWrongOfDay_17 : decode m_X5_firstWrongOfDay.2.1 17 = .ok (.if_icmp .ge 31, 3) := by decide +kernel
theorem d_X5_firstWrongOfDay_20 : decode m_X5_firstWrongOfDay.2.1 20 = .ok (.aload_n 0, 1) := by decide +kernel
theorem d_X5_firstWrongOfDay_21 : decode m_X5_firstWrongOfDay.2.1 21 = .ok (.getfield 18, 3) := by decide +kernel
theorem d_X5_firstWrongOfDay_24 : decode m_X5_firstWrongOfDay.2.1 24 = .ok (.aload_n 1, 1) := by decide +kernel
theorem d_X5_firstWrongOfDay_25 : decode m_X5_firstWrongOfDay.2.1 25 = .ok (.getfield 213, 3) := by decide +kernel
theorem d_X5_firstWrongOfDay_28 : decode m_X5_firstWrongOfDay.2.1 28 = .ok (.iload_n 2, 1) := by decide +kernel
theorem d_X5_firstWrongOfDay_29 : decode m_X5_firstWrongOfDay.2.1 29 = .ok (.iload 4, 2) := by decide +kernel
theorem d_X5_firstWrongOfDay_31 : decode m_X5_firstWrongOfDay.2.1 31 = .ok (.iadd, 1) := by decide +kernel
theorem d_X5_firstWrongOfDay_32 : decode m_X5_firstWrongOfDay.2.1 32 = .ok (.iaload, 1) := by decide +kernel
theorem d_X5_firstWrongOfDay_33 : decode m_X5_firstWrongOfDay.2.1 33 = .ok (.invokevirtual 257, 3) := by decide +kernel
theorem d_X5_firstWrongOfDay_36 : decode m_X5_firstWrongOfDay.2.1 36 = .ok (.ifCond .ne 6, 3) := by decide +kernel
theorem d_X5_firstWrongOfDay_39 : decode m_X5_firstWrongOfDay.2.1 39 = .ok (.iload 4, 2) := by decide +kernel
theorem d_X5_firstWrongOfDay_41 : decode m_X5_firstWrongOfDay.2.1 41 = .ok (.ireturn, 1) := by decide +kernel
theorem d_X5_firstWrongOfDay_42 : decode m_X5_firstWrongOfDay.2.1 42 = .ok (.iinc 4 1, 3) := by decide +kernel
theorem d_X5_firstWrongOfDay_45 : decode m_X5_firstWrongOfDay.2.1 45 = .ok (.goto (-31), 3) := by decide +kernel
theorem d_X5_firstWrongOfDay_48 : decode m_X5_firstWrongOfDay.2.1 48 = .ok (.bipush (-9), 2) := by decide +kernel
theorem d_X5_firstWrongOfDay_50 : decode m_X5_firstWrongOfDay.2.1 50 = .ok (.ireturn, 1) := by decide +kernel
theorem d_X5_afterDay_0 : decode m_X5_afterDay.2.1 0 = .ok (.iload_n 1, 1) := by decide +kernel
theorem d_X5_afterDay_1 : decode m_X5_afterDay.2.1 1 = .ok (.tableswitch 75 0 4 #[35, 75, 43, 59, 67], 35) := by decide +kernel
theorem d_X5_afterDay_36 : decode m_X5_afterDay.2.1 36 = .ok (.aload_n 0, 1) := by decide +kernel
theorem d_X5_afterDay_37 : decode m_X5_afterDay.2.1 37 = .ok (.getfield 18, 3) := by decide +kernel
theorem d_X5_afterDay_40 : decode m_X5_afterDay.2.1 40 = .ok (.invokevirtual 132, 3) := by decide +kernel
theorem d_X5_afterDay_43 : decode m_X5_afterDay.2.1 43 = .ok (.ireturn, 1) := by decide +kernel
theorem d_X5_afterDay_44 : decode m_X5_afterDay.2.1 44 = .ok (.aload_n 0, 1) := by decide +kernel
theorem d_X5_afterDay_45 : decode m_X5_afterDay.2.1 45 = .ok (.getfield 18, 3) := by decide +kernel
theorem d_X5_afterDay_48 : decode m_X5_afterDay.2.1 48 = .ok (.invokevirtual 158, 3) := by decide +kernel
theorem d_X5_afterDay_51 : decode m_X5_afterDay.2.1 51 = .ok (.aload_n 0, 1) := by decide +kernel
theorem d_X5_afterDay_52 : decode m_X5_afterDay.2.1 52 = .ok (.getfield 12, 3) := by decide +kernel
theorem d_X5_afterDay_55 : decode m_X5_afterDay.2.1 55 = .ok (.invokevirtual 158, 3) := by decide +kernel
theorem d_X5_afterDay_58 : decode m_X5_afterDay.2.1 58 = .ok (.isub, 1) := by decide +kernel
theorem d_X5_afterDay_59 : decode m_X5_afterDay.2.1 59 = .ok (.ireturn, 1) := by decide +kernel
theorem d_X5_afterDay_60 : decode m_X5_afterDay.2.1 60 = .ok (.aload_n 0, 1) := by decide +kernel
theorem d_X5_afterDay_61 : decode m_X5_afterDay.2.1 61 = .ok (.getfield 18, 3) := by decide +kernel
theorem d_X5_afterDay_64 : decode m_X5_afterDay.2.1 64 = .ok (.invokevirtual 260, 3) := by decide +kernel
theorem d_X5_afterDay_67 : decode m_X5_afterDay.2.1 67 = .ok (.ireturn, 1) := by decide +kernel
theorem d_X5_afterDay_68 : decode m_X5_afterDay.2.1 68 = .ok (.aload_n 0, 1) := by decide +kernel
theorem d_X5_afterDay_69 : decode m_X5_afterDay.2.1 69 = .ok (.getfield 18, 3) := by decide +kernel
theorem d_X5_afterDay_72 : decode m_X5_afterDay.2.1 72 = .ok (.getfield 155, 3) := by decide +kernel
theorem d_X5_afterDay_75 : decode m_X5_afterDay.2.1 75 = .ok (.ireturn, 1) := by decide +kernel
theorem d_X5_afterDay_76 : decode m_X5_afterDay.2.1 76 = .ok (.iload_n 1, 1) := by decide +kernel
theorem d_X5_afterDay_77 : decode m_X5_afterDay.2.1 77 = .ok (.bipush 10, 2) := by decide +kernel
theorem d_X5_afterDay_79 : decode m_X5_afterDay.2.1 79 = .ok (.isub, 1) := by decide +kernel
theorem d_X5_afterDay_80 : decode m_X5_afterDay.2.1 80 = .ok (.istore_n 2, 1) := by decide +kernel
theorem d_X5_afterDay_81 : decode m_X5_afterDay.2.1 81 = .ok (.aload_n 0, 1) := by decide +kernel
theorem d_X5_afterDay_82 : decode m_X5_afterDay.2.1 82 = .ok (.getfield 18, 3) := by decide +kernel
theorem d_X5_afterDay_85 : decode m_X5_afterDay.2.1 85 = .ok (.iload_n 2, 1) := by decide +kernel
theorem d_X5_afterDay_86 : decode m_X5_afterDay.2.1 86 = .ok (.invokevirtual 77, 3) := by decide +kernel
theorem d_X5_afterDay_89 : decode m_X5_afterDay.2.1 89 = .ok (.ifCond .eq 18, 3) := by decide +kernel
theorem d_X5_afterDay_92 : decode m_X5_afterDay.2.1 92 = .ok (.aload_n 0, 1) := by decide +kernel
theorem d_X5_afterDay_93 : decode m_X5_afterDay.2.1 93 = .ok (.getfield 18, 3) := by decide +kernel
theorem d_X5_afterDay_96 : decode m_X5_afterDay.2.1 96 = .ok (.getfield 80, 3) := by decide +kernel
theorem d_X5_afterDay_99 : decode m_X5_afterDay.2.1 99 = .ok (.iload_n 2, 1) := by decide +kernel
theorem d_X5_afterDay_100 : decode m_X5_afterDay.2.1 100 = .ok (.aaload, 1) := by decide +kernel
theorem d_X5_afterDay_101 : decode m_X5_afterDay.2.1 101 = .ok (.getfield 92, 3) := by decide +kernel
theorem d_X5_afterDay_104 : decode m_X5_afterDay.2.1 104 = .ok (.goto 5, 3) := by decide +kernel
theorem d_X5_afterDay_107 : decode m_X5_afterDay.2.1 107 = .ok (.bipush (-9), 2) := by decide +kernel
theorem d_X5_afterDay_109 : decode m_X5_afterDay.2.1 109 = .ok (.ireturn, 1) := by decide +kernel
theorem d_X5_isQuietIfOwned_0 : decode m_X5_isQuietIfOwned.2.1 0 = .ok (.aload_n 0, 1) := by decide +kernel
theorem d_X5_isQuietIfOwned_1 : decode m_X5_isQuietIfOwned.2.1 1 = .ok (.getfield 18, 3) := by decide +kernel
theorem d_X5_isQuietIfOwned_4 : decode m_X5_isQuietIfOwned.2.1 4 = .ok (.aload_n 0, 1) := by decide +kernel
theorem d_X5_isQuietIfOwned_5 : decode m_X5_isQuietIfOwned.2.1 5 = .ok (.getfield 12, 3) := by decide +kernel
theorem d_X5_isQuietIfOwned_8 : decode m_X5_isQuietIfOwned.2.1 8 = .ok (.invokevirtual 70, 3) := by decide +kernel
theorem d_X5_isQuietIfOwned_11 : decode m_X5_isQuietIfOwned.2.1 11 = .ok (.aload_n 0, 1) := by decide +kernel
theorem d_X5_isQuietIfOwned_12 : decode m_X5_isQuietIfOwned.2.1 12 = .ok (.getfield 18, 3) := by decide +kernel
theorem d_X5_isQuietIfOwned_15 : decode m_X5_isQuietIfOwned.2.1 15 = .ok (.iload_n 1, 1) := by decide +kernel
theorem d_X5_isQuietIfOwned_16 : decode m_X5_isQuietIfOwned.2.1 16 = .ok (.invokevirtual 263, 3) := by decide +kernel
theorem d_X5_isQuietIfOwned_19 : decode m_X5_isQuietIfOwned.2.1 19 = .ok (.aload_n 0, 1) := by decide +kernel
theorem d_X5_isQuietIfOwned_20 : decode m_X5_isQuietIfOwned.2.1 20 = .ok (.getfield 18, 3) := by decide +kernel
theorem d_X5_isQuietIfOwned_23 : decode m_X5_isQuietIfOwned.2.1 23 = .ok (.iload_n 2, 1) := by decide +kernel
theorem d_X5_isQuietIfOwned_24 : decode m_X5_isQuietIfOwned.2.1 24 = .ok (.invokevirtual 161, 3) := by decide +kernel
theorem d_X5_isQuietIfOwned_27 : decode m_X5_isQuietIfOwned.2.1 27 = .ok (.bipush (-9), 2) := by decide +kernel
theorem d_X5_isQuietIfOwned_29 : decode m_X5_isQuietIfOwned.2.1 29 = .ok (.if_icmp .eq 7, 3) := by decide +kernel
theorem d_X5_isQuietIfOwned_32 : decode m_X5_isQuietIfOwned.2.1 32 = .ok (.iconst 1, 1) := by decide +kernel
theorem d_X5_isQuietIfOwned_33 : decode m_X5_isQuietIfOwned.2.1 33 = .ok (.goto 4, 3) := by decide +kernel
theorem d_X5_isQuietIfOwned_36 : decode m_X5_isQuietIfOwned.2.1 36 = .ok (.iconst 0, 1) := by decide +kernel
theorem d_X5_isQuietIfOwned_37 : decode m_X5_isQuietIfOwned.2.1 37 = .ok (.ireturn, 1) := by decide +kernel
theorem d_X5_nightsIfChosen_0 : decode m_X5_nightsIfChosen.2.1 0 = .ok (.aload_n 0, 1) := by decide +kernel
theorem d_X5_nightsIfChosen_1 : decode m_X5_nightsIfChosen.2.1 1 = .ok (.getfield 18, 3) := by decide +kernel
theorem d_X5_nightsIfChosen_4 : decode m_X5_nightsIfChosen.2.1 4 = .ok (.aload_n 0, 1) := by decide +kernel
theorem d_X5_nightsIfChosen_5 : decode m_X5_nightsIfChosen.2.1 5 = .ok (.getfield 12, 3) := by decide +kernel
theorem d_X5_nightsIfChosen_8 : decode m_X5_nightsIfChosen.2.1 8 = .ok (.invokevirtual 70, 3) := by decide +kernel
theorem d_X5_nightsIfChosen_11 : decode m_X5_nightsIfChosen.2.1 11 = .ok (.iload_n 3, 1) := by decide +kernel
theorem d_X5_nightsIfChosen_12 : decode m_X5_nightsIfChosen.2.1 12 = .ok (.iconst 1, 1) := by decide +kernel
theorem d_X5_nightsIfChosen_13 : decode m_X5_nightsIfChosen.2.1 13 = .ok (.iand, 1) := by decide +kernel
theorem d_X5_nightsIfChosen_14 : decode m_X5_nightsIfChosen.2.1 14 = .ok (.ifCond .eq 16, 3) := by decide +kernel
theorem d_X5_nightsIfChosen_17 : decode m_X5_nightsIfChosen.2.1 17 = .ok (.aload_n 0, 1) := by decide +kernel
theorem d_X5_nightsIfChosen_18 : decode m_X5_nightsIfChosen.2.1 18 = .ok (.getfield 18, 3) := by decide +kernel
theorem d_X5_nightsIfChosen_21 : decode m_X5_nightsIfChosen.2.1 21 = .ok (.getfield 80, 3) := by decide +kernel
theorem d_X5_nightsIfChosen_24 : decode m_X5_nightsIfChosen.2.1 24 = .ok (.iload_n 1, 1) := by decide +kernel
theorem d_X5_nightsIfChosen_25 : decode m_X5_nightsIfChosen.2.1 25 = .ok (.aaload, 1) := by decide +kernel
theorem d_X5_nightsIfChosen_26 : decode m_X5_nightsIfChosen.2.1 26 = .ok (.invokevirtual 129, 3) := by decide +kernel
theorem d_X5_nightsIfChosen_29 : decode m_X5_nightsIfChosen.2.1 29 = .ok (.pop, 1) := by decide +kernel
theorem d_X5_nightsIfChosen_30 : decode m_X5_nightsIfChosen.2.1 30 = .ok (.iload_n 3, 1) := by decide +kernel
theorem d_X5_nightsIfChosen_31 : decode m_X5_nightsIfChosen.2.1 31 = .ok (.iconst 2, 1) := by decide +kernel
theorem d_X5_nightsIfChosen_32 : decode m_X5_nightsIfChosen.2.1 32 = .ok (.iand, 1) := by decide +kernel
theorem d_X5_nightsIfChosen_33 : decode m_X5_nightsIfChosen.2.1 33 = .ok (.ifCond .eq 16, 3) := by decide +kernel
theorem d_X5_nightsIfChosen_36 : decode m_X5_nightsIfChosen.2.1 36 = .ok (.aload_n 0, 1) := by decide +kernel
theorem d_X5_nightsIfChosen_37 : decode m_X5_nightsIfChosen.2.1 37 = .ok (.getfield 18, 3) := by decide +kernel
theorem d_X5_nightsIfChosen_40 : decode m_X5_nightsIfChosen.2.1 40 = .ok (.getfield 80, 3) := by decide +kernel
theorem d_X5_nightsIfChosen_43 : decode m_X5_nightsIfChosen.2.1 43 = .ok (.iload_n 2, 1) := by decide +kernel
theorem d_X5_nightsIfChosen_44 : decode m_X5_nightsIfChosen.2.1 44 = .ok (.aaload, 1) := by decide +kernel
theorem d_X5_nightsIfChosen_45 : decode m_X5_nightsIfChosen.2.1 45 = .ok (.invokevirtual 129, 3) := by decide +kernel
theorem d_X5_nightsIfChosen_48 : decode m_X5_nightsIfChosen.2.1 48 = .ok (.pop, 1) := by decide +kernel
theorem d_X5_nightsIfChosen_49 : decode m_X5_nightsIfChosen.2.1 49 = .ok (.aload_n 0, 1) := by decide +kernel
theorem d_X5_nightsIfChosen_50 : decode m_X5_nightsIfChosen.2.1 50 = .ok (.getfield 18, 3) := by decide +kernel
theorem d_X5_nightsIfChosen_53 : decode m_X5_nightsIfChosen.2.1 53 = .ok (.bipush 20, 2) := by decide +kernel
theorem d_X5_nightsIfChosen_55 : decode m_X5_nightsIfChosen.2.1 55 = .ok (.invokevirtual 161, 3) := by decide +kernel
theorem d_X5_nightsIfChosen_58 : decode m_X5_nightsIfChosen.2.1 58 = .ok (.istore 4, 2) := by decide +kernel
theorem d_X5_nightsIfChosen_60 : decode m_X5_nightsIfChosen.2.1 60 = .ok (.iload 4, 2) := by decide +kernel
theorem d_X5_nightsIfChosen_62 : decode m_X5_nightsIfChosen.2.1 62 = .ok (.bipush (-9), 2) := by decide +kernel
theorem d_X5_nightsIfChosen_64 : decode m_X5_nightsIfChosen.2.1 64 = .ok (.if_icmp .ne 8, 3) := by decide +kernel
theorem d_X5_nightsIfChosen_67 : decode m_X5_nightsIfChosen.2.1 67 = .ok (.bipush 20, 2) := by decide +kernel
theorem d_X5_nightsIfChosen_69 : decode m_X5_nightsIfChosen.2.1 69 = .ok (.goto 5, 3) := by decide +kernel
theorem d_X5_nightsIfChosen_72 : decode m_X5_nightsIfChosen.2.1 72 = .ok (.iload 4, 2) := by decide +kernel
theorem d_X5_nightsIfChosen_74 : decode m_X5_nightsIfChosen.2.1 74 = .ok (.ireturn, 1) := by decide +kernel
theorem d_X5_isContent_0 : decode m_X5_isContent.2.1 0 = .ok (.aload_n 0, 1) := by decide +kernel
theorem d_X5_isContent_1 : decode m_X5_isContent.2.1 1 = .ok (.iload_n 1, 1) := by decide +kernel
theorem d_X5_isContent_2 : decode m_X5_isContent.2.1 2 = .ok (.iload_n 2, 1) := by decide +kernel
theorem d_X5_isContent_3 : decode m_X5_isContent.2.1 3 = .ok (.iload_n 3, 1) := by decide +kernel
theorem d_X5_isContent_4 : decode m_X5_isContent.2.1 4 = .ok (.invokevirtual 266, 3) := by decide +kernel
theorem d_X5_isContent_7 : decode m_X5_isContent.2.1 7 = .ok (.aload_n 0, 1) := by decide +kernel
theorem d_X5_isContent_8 : decode m_X5_isContent.2.1 8 = .ok (.iload_n 1, 1) := by decide +kernel
theorem d_X5_isContent_9 : decode m_X5_isContent.2.1 9 = .ok (.iload_n 2, 1) := by decide +kernel
theorem d_X5_isContent_10 : decode m_X5_isContent.2.1 10 = .ok (.iload_n 3, 1) := by decide +kernel
theorem d_X5_isContent_11 : decode m_X5_isContent.2.1 11 = .ok (.iload_n 2, 1) := by decide +kernel
theorem d_X5_isContent_12 : decode m_X5_isContent.2.1 12 = .ok (.ixor, 1) := by decide +kernel
theorem d_X5_isContent_13 : decode m_X5_isContent.2.1 13 = .ok (.invokevirtual 266, 3) := by decide +kernel
theorem d_X5_isContent_16 : decode m_X5_isContent.2.1 16 = .ok (.if_icmp .gt 7, 3) := by decide +kernel
theorem d_X5_isContent_19 : decode m_X5_isContent.2.1 19 = .ok (.iconst 1, 1) := by decide +kernel
theorem d_X5_isContent_20 : decode m_X5_isContent.2.1 20 = .ok (.goto 4, 3) := by decide +kernel
theorem d_X5_isContent_23 : decode m_X5_isContent.2.1 23 = .ok (.iconst 0, 1) := by decide +kernel
theorem d_X5_isContent_24 : decode m_X5_isContent.2.1 24 = .ok (.ireturn, 1) := by decide +kernel
theorem d_X5_painOfChoice_0 : decode m_X5_painOfChoice.2.1 0 = .ok (.aload_n 0, 1) := by decide +kernel
theorem d_X5_painOfChoice_1 : decode m_X5_painOfChoice.2.1 1 = .ok (.getfield 34, 3) := by decide +kernel
theorem d_X5_painOfChoice_4 : decode m_X5_painOfChoice.2.1 4 = .ok (.iload_n 3, 1) := by decide +kernel
theorem d_X5_painOfChoice_5 : decode m_X5_painOfChoice.2.1 5 = .ok (.iaload, 1) := by decide +kernel
theorem d_X5_painOfChoice_6 : decode m_X5_painOfChoice.2.1 6 = .ok (.istore 4, 2) := by decide +kernel
theorem d_X5_painOfChoice_8 : decode m_X5_painOfChoice.2.1 8 = .ok (.iload_n 3, 1) := by decide +kernel
theorem d_X5_painOfChoice_9 : decode m_X5_painOfChoice.2.1 9 = .ok (.iload_n 2, 1) := by decide +kernel
theorem d_X5_painOfChoice_10 : decode m_X5_painOfChoice.2.1 10 = .ok (.iand, 1) := by decide +kernel
theorem d_X5_painOfChoice_11 : decode m_X5_painOfChoice.2.1 11 = .ok (.ifCond .ne 6, 3) := by decide +kernel
theorem d_X5_painOfChoice_14 : decode m_X5_painOfChoice.2.1 14 = .ok (.iload 4, 2) := by decide +kernel
theorem d_X5_painOfChoice_16 : decode m_X5_painOfChoice.2.1 16 = .ok (.ireturn, 1) := by decide +kernel
theorem d_X5_painOfChoice_17 : decode m_X5_painOfChoice.2.1 17 = .ok (.aload_n 0, 1) := by decide +kernel
theorem d_X5_painOfChoice_18 : decode m_X5_painOfChoice.2.1 18 = .ok (.getfield 12, 3) := by decide +kernel
theorem d_X5_painOfChoice_21 : decode m_X5_painOfChoice.2.1 21 = .ok (.getfield 80, 3) := by decide +kernel
theorem d_X5_painOfChoice_24 : decode m_X5_painOfChoice.2.1 24 = .ok (.iload_n 1, 1) := by decide +kernel
theorem d_X5_painOfChoice_25 : decode m_X5_painOfChoice.2.1 25 = .ok (.aaload, 1) := by decide +kernel
theorem d_X5_painOfChoice_26 : decode m_X5_painOfChoice.2.1 26 = .ok (.astore 5, 2) := by decide +kernel
theorem d_X5_painOfChoice_28 : decode m_X5_painOfChoice.2.1 28 = .ok (.iload 4, 2) := by decide +kernel
theorem d_X5_painOfChoice_30 : decode m_X5_painOfChoice.2.1 30 = .ok (.aload 5, 2) := by decide +kernel
theorem d_X5_painOfChoice_32 : decode m_X5_painOfChoice.2.1 32 = .ok (.invokevirtual 103, 3) := by decide +kernel
theorem d_X5_painOfChoice_35 : decode m_X5_painOfChoice.2.1 35 = .ok (.ifCond .eq 11, 3) := by decide +kernel
theorem d_X5_painOfChoice_38 : decode m_X5_painOfChoice.2.1 38 = .ok (.aload 5, 2) := by decide +kernel
theorem d_X5_painOfChoice_40 : decode m_X5_painOfChoice.2.1 40 = .ok (.invokevirtual 95, 3) := by decide +kernel
theorem d_X5_painOfChoice_43 : decode m_X5_painOfChoice.2.1 43 = .ok (.goto 5, 3) := by decide +kernel
theorem d_X5_painOfChoice_46 : decode m_X5_painOfChoice.2.1 46 = .ok (.bipush 6, 2) := by decide +kernel
theorem d_X5_painOfChoice_48 : decode m_X5_painOfChoice.2.1 48 = .ok (.iadd, 1) := by decide +kernel
theorem d_X5_painOfChoice_49 : decode m_X5_painOfChoice.2.1 49 = .ok (.ireturn, 1) := by decide +kernel
theorem d_X5_doReadingsHoldOfTrial_0 : decode m_X5_doReadingsHoldOfTrial.2.1 0 = .ok (.aload_n 0, 1) := by decide +kernel
theorem d_X5_doReadingsHoldOfTrial_1 : decode m_X5_doReadingsHoldOfTrial.2.1 1 = .ok (.invokevirtual 269, 3) := by decide +kernel
theorem d_X5_doReadingsHoldOfTrial_4 : decode m_X5_doReadingsHoldOfTrial.2.1 4 = .ok (.istore_n 1, 1) := by decide +kernel
theorem d_X5_doReadingsHoldOfTrial_5 : decode m_X5_doReadingsHoldOfTrial.2.1 5 = .ok (.iconst 0, 1) := by decide +kernel
theorem d_X5_doReadingsHoldOfTrial_6 : decode m_X5_doReadingsHoldOfTrial.2.1 6 = .ok (.istore_n 2, 1) := by decide +kernel
theorem d_X5_doReadingsHoldOfTrial_7 : decode m_X5_doReadingsHoldOfTrial.2.1 7 = .ok (.iload_n 2, 1) := by decide +kernel
theorem d_X5_doReadingsHoldOfTrial_8 : decode m_X5_doReadingsHoldOfTrial.2.1 8 = .ok (.iload_n 1, 1) := by decide +kernel
theorem d_X5_doReadingsHoldOfTrial_9 : decode m_X5_doReadingsHoldOfTrial.2.1 9 = .ok (.if_icmp .gt 33, 3) := by decide +kernel
theorem d_X5_doReadingsHoldOfTrial_12 : decode m_X5_doReadingsHoldOfTrial.2.1 12 = .ok (.aload_n 0, 1) := by decide +kernel
theorem d_X5_doReadingsHoldOfTrial_13 : decode m_X5_doReadingsHoldOfTrial.2.1 13 = .ok (.iload_n 2, 1) := by decide +kernel
theorem d_X5_doReadingsHoldOfTrial_14 : decode m_X5_doReadingsHoldOfTrial.2.1 14 = .ok (.aload_n 0, 1) := by decide +kernel
theorem d_X5_doReadingsHoldOfTrial_15 : decode m_X5_doReadingsHoldOfTrial.2.1 15 = .ok (.getfield 18, 3) := by decide +kernel
theorem d_X5_doReadingsHoldOfTrial_18 : decode m_X5_doReadingsHoldOfTrial.2.1 18 = .ok (.invokevirtual 132, 3) := by decide +kernel
theorem d_X5_doReadingsHoldOfTrial_21 : decode m_X5_doReadingsHoldOfTrial.2.1 21 = .ok (.invokevirtual 272, 3) := by decide +kernel
theorem d_X5_doReadingsHoldOfTrial_24 : decode m_X5_doReadingsHoldOfTrial.2.1 24 = .ok (.ifCond .ne 5, 3) := by decide +kernel
theorem d_X5_doReadingsHoldOfTrial_27 : decode m_X5_doReadingsHoldOfTrial.2.1 27 = .ok (.iconst 0, 1) := by decide +kernel
theorem d_X5_doReadingsHoldOfTrial_28 : decode m_X5_doReadingsHoldOfTrial.2.1 28 = .ok (.ireturn, 1) := by decide +kernel
theorem d_X5_doReadingsHoldOfTrial_29 : decode m_X5_doReadingsHoldOfTrial.2.1 29 = .ok (.aload_n 0, 1) := by decide +kernel
theorem d_X5_doReadingsHoldOfTrial_30 : decode m_X5_doReadingsHoldOfTrial.2.1 30 = .ok (.getfield 18, 3) := by decide +kernel
theorem d_X5_doReadingsHoldOfTrial_33 : decode m_X5_doReadingsHoldOfTrial.2.1 33 = .ok (.invokevirtual 275, 3) := by decide +kernel
theorem d_X5_doReadingsHoldOfTrial_36 : decode m_X5_doReadingsHoldOfTrial.2.1 36 = .ok (.iinc 2 1, 3) := by decide +kernel
theorem d_X5_doReadingsHoldOfTrial_39 : decode m_X5_doReadingsHoldOfTrial.2.1 39 = .ok (.goto (-32), 3) := by decide +kernel
theorem d_X5_doReadingsHoldOfTrial_42 : decode m_X5_doReadingsHoldOfTrial.2.1 42 = .ok (.iconst 1, 1) := by decide +kernel
theorem d_X5_doReadingsHoldOfTrial_43 : decode m_X5_doReadingsHoldOfTrial.2.1 43 = .ok (.ireturn, 1) := by decide +kernel
theorem d_X5_lastNightRead_0 : decode m_X5_lastNightRead.2.1 0 = .ok (.bipush (-9), 2) := by decide +kernel
theorem d_X5_lastNightRead_2 : decode m_X5_lastNightRead.2.1 2 = .ok (.istore_n 1, 1) := by decide +kernel
theorem d_X5_lastNightRead_3 : decode m_X5_lastNightRead.2.1 3 = .ok (.iconst 0, 1) := by decide +kernel
theorem d_X5_lastNightRead_4 : decode m_X5_lastNightRead.2.1 4 = .ok (.istore_n 2, 1) := by decide +kernel
theorem d_X5_lastNightRead_5 : decode m_X5_lastNightRead.2.1 5 = .ok (.iload_n 2, 1) := by decide +kernel
theorem d_X5_lastNightRead_6 : decode m_X5_lastNightRead.2.1 6 = .ok (.aload_n 0, 1) := by decide +kernel
theorem d_X5_lastNightRead_7 : decode m_X5_lastNightRead.2.1 7 = .ok (.getfield 37, 3) := by decide +kernel
theorem d_X5_lastNightRead_10 : decode m_X5_lastNightRead.2.1 10 = .ok (.if_icmp .ge 20, 3) := by decide +kernel
theorem d_X5_lastNightRead_13 : decode m_X5_lastNightRead.2.1 13 = .ok (.iload_n 1, 1) := by decide +kernel
theorem d_X5_lastNightRead_14 : decode m_X5_lastNightRead.2.1 14 = .ok (.aload_n 0, 1) := by decide +kernel
theorem d_X5_lastNightRead_15 : decode m_X5_lastNightRead.2.1 15 = .ok (.getfield 27, 3) := by decide +kernel
theorem d_X5_lastNightRead_18 : decode m_X5_lastNightRead.2.1 18 = .ok (.iload_n 2, 1) := by decide +kernel
theorem d_X5_lastNightRead_19 : decode m_X5_lastNightRead.2.1 19 = .ok (.iaload, 1) := by decide +kernel
theorem d_X5_lastNightRead_20 : decode m_X5_lastNightRead.2.1 20 = .ok (.invokestatic 278, 3) := by decide +kernel
theorem d_X5_lastNightRead_23 : decode m_X5_lastNightRead.2.1 23 = .ok (.istore_n 1, 1) := by decide +kernel
theorem d_X5_lastNightRead_24 : decode m_X5_lastNightRead.2.1 24 = .ok (.iinc 2 1, 3) := by decide +kernel
theorem d_X5_lastNightRead_27 : decode m_X5_lastNightRead.2.1 27 = .ok (.goto (-22), 3) := by decide +kernel
theorem d_X5_lastNightRead_30 : decode m_X5_lastNightRead.2.1 30 = .ok (.iload_n 1, 1) := by decide +kernel
theorem d_X5_lastNightRead_31 : decode m_X5_lastNightRead.2.1 31 = .ok (.ireturn, 1) := by decide +kernel
