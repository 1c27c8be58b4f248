theorem d_X6_begins_0 : decode m_X6_begins.2.1 0 = .ok (.aload_n 0, 1) := by decide +kernel
theorem d_X6_begins_1 : decode m_X6_begins.2.1 1 = .ok (.bipush 31, 2) := by decide +kernel
theorem d_X6_begins_3 : decode m_X6_begins.2.1 3 = .ok (.aload_n 0, 1) := by decide +kernel
theorem d_X6_begins_4 : decode m_X6_begins.2.1 4 = .ok (.getfield 209, 3) := by decide +kernel
theorem d_X6_begins_7 : decode m_X6_begins.2.1 7 = .ok (.imul, 1) := by decide +kernel
theorem d_X6_begins_8 : decode m_X6_begins.2.1 8 = .ok (.iload_n 1, 1) := by decide +kernel
theorem d_X6_begins_9 : decode m_X6_begins.2.1 9 = .ok (.iadd, 1) := by decide +kernel
theorem d_X6_begins_10 : decode m_X6_begins.2.1 10 = .ok (.putfield 209, 3) := by decide +kernel
theorem d_X6_begins_13 : decode m_X6_begins.2.1 13 = .ok (.return_, 1) := by decide +kernel
theorem d_X6_tell_0 : decode m_X6_tell.2.1 0 = .ok (.aload_n 0, 1) := by decide +kernel
theorem d_X6_tell_1 : decode m_X6_tell.2.1 1 = .ok (.iload_n 1, 1) := by decide +kernel
theorem d_X6_tell_2 : decode m_X6_tell.2.1 2 = .ok (.invokevirtual 145, 3) := by decide +kernel
theorem d_X6_tell_5 : decode m_X6_tell.2.1 5 = .ok (.ifCond .ne 5, 3) := by decide +kernel
theorem d_X6_tell_8 : decode m_X6_tell.2.1 8 = .ok (.iconst (-1), 1) := by decide +kernel
theorem d_X6_tell_9 : decode m_X6_tell.2.1 9 = .ok (.ireturn, 1) := by decide +kernel
theorem d_X6_tell_10 : decode m_X6_tell.2.1 10 = .ok (.aload_n 0, 1) := by decide +kernel
theorem d_X6_tell_11 : decode m_X6_tell.2.1 11 = .ok (.getfield 22, 3) := by decide +kernel
theorem d_X6_tell_14 : decode m_X6_tell.2.1 14 = .ok (.iload_n 1, 1) := by decide +kernel
theorem d_X6_tell_15 : decode m_X6_tell.2.1 15 = .ok (.iaload, 1) := by decide +kernel
theorem d_X6_tell_16 : decode m_X6_tell.2.1 16 = .ok (.istore_n 2, 1) := by decide +kernel
theorem d_X6_tell_17 : decode m_X6_tell.2.1 17 = .ok (.aload_n 0, 1) := by decide +kernel
theorem d_X6_tell_18 : decode m_X6_tell.2.1 18 = .ok (.getfield 19, 3) := by decide +kernel
theorem d_X6_tell_21 : decode m_X6_tell.2.1 21 = .ok (.iload_n 1, 1) := by decide +kernel
theorem d_X6_tell_22 : decode m_X6_tell.2.1 22 = .ok (.iaload, 1) := by decide +kernel
theorem d_X6_tell_23 : decode m_X6_tell.2.1 23 = .ok (.lookupswitch 67 #[(1, 25), (2, 40)], 25) := by decide +kernel
theorem d_X6_tell_48 : decode m_X6_tell.2.1 48 = .ok (.aload_n 0, 1) := by decide +kernel
theorem d_X6_tell_49 : decode m_X6_tell.2.1 49 = .ok (.iconst 2, 1) := by decide +kernel
theorem d_X6_tell_50 : decode m_X6_tell.2.1 50 = .ok (.invokevirtual 212, 3) := by decide +kernel
theorem d_X6_tell_53 : decode m_X6_tell.2.1 53 = .ok (.aload_n 0, 1) := by decide +kernel
theorem d_X6_tell_54 : decode m_X6_tell.2.1 54 = .ok (.iconst 1, 1) := by decide +kernel
theorem d_X6_tell_55 : decode m_X6_tell.2.1 55 = .ok (.invokevirtual 212, 3) := by decide +kernel
theorem d_X6_tell_58 : decode m_X6_tell.2.1 58 = .ok (.iload_n 2, 1) := by decide +kernel
theorem d_X6_tell_59 : decode m_X6_tell.2.1 59 = .ok (.bipush 100, 2) := by decide +kernel
theorem d_X6_tell_61 : decode m_X6_tell.2.1 61 = .ok (.iadd, 1) := by decide +kernel
theorem d_X6_tell_62 : decode m_X6_tell.2.1 62 = .ok (.ireturn, 1) := by decide +kernel
theorem d_X6_tell_63 : decode m_X6_tell.2.1 63 = .ok (.aload_n 0, 1) := by decide +kernel
theorem d_X6_tell_64 : decode m_X6_tell.2.1 64 = .ok (.iconst 3, 1) := by decide +kernel
theorem d_X6_tell_65 : decode m_X6_tell.2.1 65 = .ok (.invokevirtual 212, 3) := by decide +kernel
theorem d_X6_tell_68 : decode m_X6_tell.2.1 68 = .ok (.aload_n 0, 1) := by decide +kernel
theorem d_X6_tell_69 : decode m_X6_tell.2.1 69 = .ok (.iconst 2, 1) := by decide +kernel
theorem d_X6_tell_70 : decode m_X6_tell.2.1 70 = .ok (.invokevirtual 212, 3) := by decide +kernel
theorem d_X6_tell_73 : decode m_X6_tell.2.1 73 = .ok (.aload_n 0, 1) := by decide +kernel
theorem d_X6_tell_74 : decode m_X6_tell.2.1 74 = .ok (.iconst 1, 1) := by decide +kernel
theorem d_X6_tell_75 : decode m_X6_tell.2.1 75 = .ok (.invokevirtual 212, 3) := by decide +kernel
theorem d_X6_tell_78 : decode m_X6_tell.2.1 78 = .ok (.aload_n 0, 1) := by decide +kernel
theorem d_X6_tell_79 : decode m_X6_tell.2.1 79 = .ok (.iconst 1, 1) := by decide +kernel
theorem d_X6_tell_80 : decode m_X6_tell.2.1 80 = .ok (.invokevirtual 212, 3) := by decide +kernel
theorem d_X6_tell_83 : decode m_X6_tell.2.1 83 = .ok (.iconst 2, 1) := by decide +kernel
theorem d_X6_tell_84 : decode m_X6_tell.2.1 84 = .ok (.iload_n 2, 1) := by decide +kernel
theorem d_X6_tell_85 : decode m_X6_tell.2.1 85 = .ok (.imul, 1) := by decide +kernel
theorem d_X6_tell_86 : decode m_X6_tell.2.1 86 = .ok (.bipush 100, 2) := by decide +kernel
theorem d_X6_tell_88 : decode m_X6_tell.2.1 88 = .ok (.iadd, 1) := by decide +kernel
theorem d_X6_tell_89 : decode m_X6_tell.2.1 89 = .ok (.ireturn, 1) := by decide +kernel
theorem d_X6_tell_90 : decode m_X6_tell.2.1 90 = .ok (.aload_n 0, 1) := by decide +kernel
theorem d_X6_tell_91 : decode m_X6_tell.2.1 91 = .ok (.iconst 1, 1) := by decide +kernel
theorem d_X6_tell_92 : decode m_X6_tell.2.1 92 = .ok (.invokevirtual 212, 3) := by decide +kernel
theorem d_X6_tell_95 : decode m_X6_tell.2.1 95 = .ok (.iload_n 2, 1) := by decide +kernel
theorem d_X6_tell_96 : decode m_X6_tell.2.1 96 = .ok (.ireturn, 1) := by decide +kernel
theorem d_X6_knock_0 : decode m_X6_knock.2.1 0 = .ok (.aload_n 0, 1) := by decide +kernel
theorem d_X6_knock_1 : decode m_X6_knock.2.1 1 = .ok (.iload_n 1, 1) := by decide +kernel
theorem d_X6_knock_2 : decode m_X6_knock.2.1 2 = .ok (.invokevirtual 145, 3) := by decide +kernel
theorem d_X6_knock_5 : decode m_X6_knock.2.1 5 = .ok (.ifCond .ne 5, 3) := by decide +kernel
theorem d_X6_knock_8 : decode m_X6_knock.2.1 8 = .ok (.iconst (-1), 1) := by decide +kernel
theorem d_X6_knock_9 : decode m_X6_knock.2.1 9 = .ok (.ireturn, 1) := by decide +kernel
theorem d_X6_knock_10 : decode m_X6_knock.2.1 10 = .ok (.aload_n 0, 1) := by decide +kernel
theorem d_X6_knock_11 : decode m_X6_knock.2.1 11 = .ok (.aload_n 0, 1) := by decide +kernel
theorem d_X6_knock_12 : decode m_X6_knock.2.1 12 = .ok (.getfield 19, 3) := by decide +kernel
theorem d_X6_knock_15 : decode m_X6_knock.2.1 15 = .ok (.iload_n 1, 1) := by decide +kernel
theorem d_X6_knock_16 : decode m_X6_knock.2.1 16 = .ok (.iaload, 1) := by decide +kernel
theorem d_X6_knock_17 : decode m_X6_knock.2.1 17 = .ok (.iconst 2, 1) := by decide +kernel
theorem d_X6_knock_18 : decode m_X6_knock.2.1 18 = .ok (.if_icmp .ne 7, 3) := by decide +kernel
theorem d_X6_knock_21 : decode m_X6_knock.2.1 21 = .ok (.iconst 5, 1) := by decide +kernel
theorem d_X6_knock_22 : decode m_X6_knock.2.1 22 = .ok (.goto 4, 3) := by decide +kernel
theorem d_X6_knock_25 : decode m_X6_knock.2.1 25 = .ok (.iconst 4, 1) := by decide +kernel
theorem d_X6_knock_26 : decode m_X6_knock.2.1 26 = .ok (.invokevirtual 212, 3) := by decide +kernel
theorem d_X6_knock_29 : decode m_X6_knock.2.1 29 = .ok (.aload_n 0, 1) := by decide +kernel
theorem d_X6_knock_30 : decode m_X6_knock.2.1 30 = .ok (.getfield 19, 3) := by decide +kernel
theorem d_X6_knock_33 : decode m_X6_knock.2.1 33 = .ok (.iload_n 1, 1) := by decide +kernel
theorem d_X6_knock_34 : decode m_X6_knock.2.1 34 = .ok (.iaload, 1) := by decide +kernel
theorem d_X6_knock_35 : decode m_X6_knock.2.1 35 = .ok (.iconst 2, 1) := by decide +kernel
theorem d_X6_knock_36 : decode m_X6_knock.2.1 36 = .ok (.if_icmp .ne 8, 3) := by decide +kernel
theorem d_X6_knock_39 : decode m_X6_knock.2.1 39 = .ok (.bipush 70, 2) := by decide +kernel
theorem d_X6_knock_41 : decode m_X6_knock.2.1 41 = .ok (.goto 9, 3) := by decide +kernel
theorem d_X6_knock_44 : decode m_X6_knock.2.1 44 = .ok (.aload_n 0, 1) := by decide +kernel
theorem d_X6_knock_45 : decode m_X6_knock.2.1 45 = .ok (.getfield 25, 3) := by decide +kernel
theorem d_X6_knock_48 : decode m_X6_knock.2.1 48 = .ok (.iload_n 1, 1) := by decide +kernel
theorem d_X6_knock_49 : decode m_X6_knock.2.1 49 = .ok (.iaload, 1) := by decide +kernel
theorem d_X6_knock_50 : decode m_X6_knock.2.1 50 = .ok (.ireturn, 1) := by decide +kernel
theorem d_X6_as_0 : decode m_X6_as.2.1 0 = .ok (.aload_n 0, 1) := by decide +kernel
theorem d_X6_as_1 : decode m_X6_as.2.1 1 = .ok (.iconst 0, 1) := by decide +kernel
theorem d_X6_as_2 : decode m_X6_as.2.1 2 = .ok (.putfield 52, 3) := by decide +kernel
theorem d_X6_as_5 : decode m_X6_as.2.1 5 = .ok (.aload_n 0, 1) := by decide +kernel
theorem d_X6_as_6 : decode m_X6_as.2.1 6 = .ok (.iload_n 1, 1) := by decide +kernel
theorem d_X6_as_7 : decode m_X6_as.2.1 7 = .ok (.invokevirtual 145, 3) := by decide +kernel
theorem d_X6_as_10 : decode m_X6_as.2.1 10 = .ok (.ifCond .ne 5, 3) := by decide +kernel
theorem d_X6_as_13 : decode m_X6_as.2.1 13 = .ok (.iconst (-1), 1) := by decide +kernel
theorem d_X6_as_14 : decode m_X6_as.2.1 14 = .ok (.ireturn, 1) := by decide +kernel
theorem d_X6_as_15 : decode m_X6_as.2.1 15 = .ok (.iload_n 2, 1) := by decide +kernel
theorem d_X6_as_16 : decode m_X6_as.2.1 16 = .ok (.iconst 0, 1) := by decide +kernel
theorem d_X6_as_17 : decode m_X6_as.2.1 17 = .ok (.iconst 2, 1) := by decide +kernel
theorem d_X6_as_18 : decode m_X6_as.2.1 18 = .ok (.invokestatic 58, 3) := by decide +kernel
theorem d_X6_as_21 : decode m_X6_as.2.1 21 = .ok (.ifCond .ne 6, 3) := by decide +kernel
theorem d_X6_as_24 : decode m_X6_as.2.1 24 = .ok (.bipush (-2), 2) := by decide +kernel
theorem d_X6_as_26 : decode m_X6_as.2.1 26 = .ok (.ireturn, 1) := by decide +kernel
theorem d_X6_as_27 : decode m_X6_as.2.1 27 = .ok (.aload_n 0, 1) := by decide +kernel
theorem d_X6_as_28 : decode m_X6_as.2.1 28 = .ok (.getfield 19, 3) := by decide +kernel
theorem d_X6_as_31 : decode m_X6_as.2.1 31 = .ok (.iload_n 1, 1) := by decide +kernel
theorem d_X6_as_32 : decode m_X6_as.2.1 32 = .ok (.iaload, 1) := by decide +kernel
theorem d_X6_as_33 : decode m_X6_as.2.1 33 = .ok (.iload_n 2, 1) := by decide +kernel
theorem d_X6_as_34 : decode m_X6_as.2.1 34 = .ok (.if_icmp .lt 7, 3) := by decide +kernel
theorem d_X6_as_37 : decode m_X6_as.2.1 37 = .ok (.iconst 1, 1) := by decide +kernel
theorem d_X6_as_38 : decode m_X6_as.2.1 38 = .ok (.goto 8, 3) := by decide +kernel
theorem d_X6_as_41 : decode m_X6_as.2.1 41 = .ok (.aload_n 0, 1) := by decide +kernel
theorem d_X6_as_42 : decode m_X6_as.2.1 42 = .ok (.iconst 2, 1) := by decide +kernel
theorem d_X6_as_43 : decode m_X6_as.2.1 43 = .ok (.invokevirtual 82, 3) := by decide +kernel
theorem d_X6_as_46 : decode m_X6_as.2.1 46 = .ok (.ireturn, 1) := by decide +kernel
theorem d_X6_trace_0 : decode m_X6_trace.2.1 0 = .ok (.aload_n 0, 1) := by decide +kernel
theorem d_X6_trace_1 : decode m_X6_trace.2.1 1 = .ok (.getfield 209, 3) := by decide +kernel
theorem d_X6_trace_4 : decode m_X6_trace.2.1 4 = .ok (.ireturn, 1) := by decide +kernel
theorem d_X6_fault_0 : decode m_X6_fault.2.1 0 = .ok (.aload_n 0, 1) := by decide +kernel
theorem d_X6_fault_1 : decode m_X6_fault.2.1 1 = .ok (.getfield 52, 3) := by decide +kernel
theorem d_X6_fault_4 : decode m_X6_fault.2.1 4 = .ok (.ireturn, 1) := by decide +kernel
theorem d_X6_many_0 : decode m_X6_many.2.1 0 = .ok (.iload_n 1, 1) := by decide +kernel
theorem d_X6_many_1 : decode m_X6_many.2.1 1 = .ok (.tableswitch 78 0 6 #[43, 48, 53, 58, 63, 68, 73], 43) := by decide +kernel
theorem d_X6_many_44 : decode m_X6_many.2.1 44 = .ok (.aload_n 0, 1) := by decide +kernel
theorem d_X6_many_45 : decode m_X6_many.2.1 45 = .ok (.getfield 62, 3) := by decide +kernel
theorem d_X6_many_48 : decode m_X6_many.2.1 48 = .ok (.ireturn, 1) := by decide +kernel
theorem d_X6_many_49 : decode m_X6_many.2.1 49 = .ok (.aload_n 0, 1) := by decide +kernel
theorem d_X6_many_50 : decode m_X6_many.2.1 50 = .ok (.getfield 65, 3) := by decide +kernel
theorem d_X6_many_53 : decode m_X6_many.2.1 53 = .ok (.ireturn, 1) := by decide +kernel
theorem d_X6_many_54 : decode m_X6_many.2.1 54 = .ok (.aload_n 0, 1) := by decide +kernel
theorem d_X6_many_55 : decode m_X6_many.2.1 55 = .ok (.getfield 113, 3) := by decide +kernel
theorem d_X6_many_58 : decode m_X6_many.2.1 58 = .ok (.ireturn, 1) := by decide +kernel
theorem d_X6_many_59 : decode m_X6_many.2.1 59 = .ok (.aload_n 0, 1) := by decide +kernel
theorem d_X6_many_60 : decode m_X6_many.2.1 60 = .ok (.getfield 116, 3) := by decide +kernel
theorem d_X6_many_63 : decode m_X6_many.2.1 63 = .ok (.ireturn, 1) := by decide +kernel
theorem d_X6_many_64 : decode m_X6_many.2.1 64 = .ok (.aload_n 0, 1) := by decide +kernel
theorem d_X6_many_65 : decode m_X6_many.2.1 65 = .ok (.getfield 119, 3) := by decide +kernel
theorem d_X6_many_68 : decode m_X6_many.2.1 68 = .ok (.ireturn, 1) := by decide +kernel
theorem d_X6_many_69 : decode m_X6_many.2.1 69 = .ok (.aload_n 0, 1) := by decide +kernel
theorem d_X6_many_70 : decode m_X6_many.2.1 70 = .ok (.getfield 110, 3) := by decide +kernel
theorem d_X6_many_73 : decode m_X6_many.2.1 73 = .ok (.ireturn, 1) := by decide +kernel
theorem d_X6_many_74 : decode m_X6_many.2.1 74 = .ok (.aload_n 0, 1) := by decide +kernel
theorem d_X6_many_75 : decode m_X6_many.2.1 75 = .ok (.invokevirtual 151, 3) := by decide +kernel
theorem d_X6_many_78 : decode m_X6_many.2.1 78 = .ok (.ireturn, 1) := by decide +kernel
theorem d_X6_many_79 : decode m_X6_many.2.1 79 = .ok (.bipush (-2), 2) := by decide +kernel
theorem d_X6_many_81 : decode m_X6_many.2.1 81 = .ok (.ireturn, 1) := by decide +kernel
theorem d_J_bitCount_0 : decode m_J_bitCount.2.1 0 = .ok (.iload_n 0, 1) := by decide +kernel
theorem d_J_bitCount_1 : decode m_J_bitCount.2.1 1 = .ok (.iload_n 0, 1) := by decide +kernel
theorem d_J_bitCount_2 : decode m_J_bitCount.2.1 2 = .ok (.iconst 1, 1) := by decide +kernel
theorem d_J_bitCount_3 : decode m_J_bitCount.2.1 3 = .ok (.iushr, 1) := by decide +kernel
theorem d_J_bitCount_4 : decode m_J_bitCount.2.1 4 = .ok (.ldc_w 265, 3) := by decide +kernel
theorem d_J_bitCount_7 : decode m_J_bitCount.2.1 7 = .ok (.iand, 1) := by decide +kernel
theorem d_J_bitCount_8 : decode m_J_bitCount.2.1 8 = .ok (.isub, 1) := by decide +kernel
theorem d_J_bitCount_9 : decode m_J_bitCount.2.1 9 = .ok (.istore_n 0, 1) := by decide +kernel
theorem d_J_bitCount_10 : decode m_J_bitCount.2.1 10 = .ok (.iload_n 0, 1) := by decide +kernel
theorem d_J_bitCount_11 : decode m_J_bitCount.2.1 11 = .ok (.ldc_w 266, 3) := by decide +kernel
theorem d_J_bitCount_14 : decode m_J_bitCount.2.1 14 = .ok (.iand, 1) := by decide +kernel
theorem d_J_bitCount_15 : decode m_J_bitCount.2.1 15 = .ok (.iload_n 0, 1) := by decide +kernel
theorem d_J_bitCount_16 : decode m_J_bitCount.2.1 16 = .ok (.iconst 2, 1) := by decide +kernel
theorem d_J_bitCount_17 : decode m_J_bitCount.2.1 17 = .ok (.iushr, 1) := by decide +kernel
theorem d_J_bitCount_18 : decode m_J_bitCount.2.1 18 = .ok (.ldc_w 266, 3) := by decide +kernel
theorem d_J_bitCount_21 : decode m_J_bitCount.2.1 21 = .ok (.iand, 1) := by decide +kernel
theorem d_J_bitCount_22 : decode m_J_bitCount.2.1 22 = .ok (.iadd, 1) := by decide +kernel
theorem d_J_bitCount_23 : decode m_J_bitCount.2.1 23 = .ok (.istore_n 0, 1) := by decide +kernel
theorem d_J_bitCount_24 : decode m_J_bitCount.2.1 24 = .ok (.iload_n 0, 1) := by decide +kernel
theorem d_J_bitCount_25 : decode m_J_bitCount.2.1 25 = .ok (.iload_n 0, 1) := by decide +kernel
theorem d_J_bitCount_26 : decode m_J_bitCount.2.1 26 = .ok (.iconst 4, 1) := by decide +kernel
theorem d_J_bitCount_27 : decode m_J_bitCount.2.1 27 = .ok (.iushr, 1) := by decide +kernel
theorem d_J_bitCount_28 : decode m_J_bitCount.2.1 28 = .ok (.iadd, 1) := by decide +kernel
theorem d_J_bitCount_29 : decode m_J_bitCount.2.1 29 = .ok (.ldc_w 267, 3) := by decide +kernel
theorem d_J_bitCount_32 : decode m_J_bitCount.2.1 32 = .ok (.iand, 1) := by decide +kernel
theorem d_J_bitCount_33 : decode m_J_bitCount.2.1 33 = .ok (.istore_n 0, 1) := by decide +kernel
theorem d_J_bitCount_34 : decode m_J_bitCount.2.1 34 = .ok (.iload_n 0, 1) := by decide +kernel
theorem d_J_bitCount_35 : decode m_J_bitCount.2.1 35 = .ok (.iload_n 0, 1) := by decide +kernel
theorem d_J_bitCount_36 : decode m_J_bitCount.2.1 36 = .ok (.bipush 8, 2) := by decide +kernel
theorem d_J_bitCount_38 : decode m_J_bitCount.2.1 38 = .ok (.iushr, 1) := by decide +kernel
theorem d_J_bitCount_39 : decode m_J_bitCount.2.1 39 = .ok (.iadd, 1) := by decide +kernel
theorem d_J_bitCount_40 : decode m_J_bitCount.2.1 40 = .ok (.istore_n 0, 1) := by decide +kernel
theorem d_J_bitCount_41 : decode m_J_bitCount.2.1 41 = .ok (.iload_n 0, 1) := by decide +kernel
theorem d_J_bitCount_42 : decode m_J_bitCount.2.1 42 = .ok (.iload_n 0, 1) := by decide +kernel
theorem d_J_bitCount_43 : decode m_J_bitCount.2.1 43 = .ok (.bipush 16, 2) := by decide +kernel
theorem d_J_bitCount_45 : decode m_J_bitCount.2.1 45 = .ok (.iushr, 1) := by decide +kernel
theorem d_J_bitCount_46 : decode m_J_bitCount.2.1 46 = .ok (.iadd, 1) := by decide +kernel
theorem d_J_bitCount_47 : decode m_J_bitCount.2.1 47 = .ok (.istore_n 0, 1) := by decide +kernel
theorem d_J_bitCount_48 : decode m_J_bitCount.2.1 48 = .ok (.iload_n 0, 1) := by decide +kernel
theorem d_J_bitCount_49 : decode m_J_bitCount.2.1 49 = .ok (.bipush 63, 2) := by decide +kernel
theorem d_J_bitCount_51 : decode m_J_bitCount.2.1 51 = .ok (.iand, 1) := by decide +kernel
theorem d_J_bitCount_52 : decode m_J_bitCount.2.1 52 = .ok (.ireturn, 1) := by decide +kernel
theorem d_J_max_0 : decode m_J_max.2.1 0 = .ok (.iload_n 0, 1) := by decide +kernel
theorem d_J_max_1 : decode m_J_max.2.1 1 = .ok (.iload_n 1, 1) := by decide +kernel
theorem d_J_max_2 : decode m_J_max.2.1 2 = .ok (.if_icmp .lt 7, 3) := by decide +kernel
theorem d_J_max_5 : decode m_J_max.2.1 5 = .ok (.iload_n 0, 1) := by decide +kernel
theorem d_J_max_6 : decode m_J_max.2.1 6 = .ok (.goto 4, 3) := by decide +kernel
theorem d_J_max_9 : decode m_J_max.2.1 9 = .ok (.iload_n 1, 1) := by decide +kernel
theorem d_J_max_10 : decode m_J_max.2.1 10 = .ok (.ireturn, 1) := by decide +kernel
theorem d_J_min_0 : decode m_J_min.2.1 0 = .ok (.iload_n 0, 1) := by decide +kernel
theorem d_J_min_1 : decode m_J_min.2.1 1 = .ok (.iload_n 1, 1) := by decide +kernel
theorem d_J_min_2 : decode m_J_min.2.1 2 = .ok (.if_icmp .gt 7, 3) := by decide +kernel
theorem d_J_min_5 : decode m_J_min.2.1 5 = .ok (.iload_n 0, 1) := by decide +kernel
theorem d_J_min_6 : decode m_J_min.2.1 6 = .ok (.goto 4, 3) := by decide +kernel
theorem d_J_min_9 : decode m_J_min.2.1 9 = .ok (.iload_n 1, 1) := by decide +kernel
theorem d_J_min_10 : decode m_J_min.2.1 10 = .ok (.ireturn, 1) := by decide +kernel
theorem d_L_law_0 : decode m_L_law.2.1 0 = .ok (.new 7, 3) := by decide +kernel
theorem d_L_law_3 : decode m_L_law.2.1 3 = .ok (.dup, 1) := by decide +kernel
theorem d_L_law_4 : decode m_L_law.2.1 4 = .ok (.invokespecial 9, 3) := by decide +kernel
theorem d_L_law_7 : decode m_L_law.2.1 7 = .ok (.astore_n 1, 1) := by decide +kernel
theorem d_L_law_8 : decode m_L_law.2.1 8 = .ok (.new 10, 3) := by decide +kernel
theorem d_L_law_11 : decode m_L_law.2.1 11 = .ok (.dup, 1) := by decide +kernel
theorem d_L_law_12 : decode m_L_law.2.1 12 = .ok (.invokespecial 12, 3) := by decide +kernel
theorem d_L_law_15 : decode m_L_law.2.1 15 = .ok (.astore_n 2, 1) := by decide +kernel
theorem d_L_law_16 : decode m_L_law.2.1 16 = .ok (.iconst 0, 1) := by decide +kernel
theorem d_L_law_17 : decode m_L_law.2.1 17 = .ok (.istore_n 3, 1) := by decide +kernel
theorem d_L_law_18 : decode m_L_law.2.1 18 = .ok (.iload_n 3, 1) := by decide +kernel
theorem d_L_law_19 : decode m_L_law.2.1 19 = .ok (.aload_n 0, 1) := by decide +kernel
theorem d_L_law_20 : decode m_L_law.2.1 20 = .ok (.arraylength, 1) := by decide +kernel
theorem d_L_law_21 : decode m_L_law.2.1 21 = .ok (.bipush 6, 2) := by decide +kernel
theorem d_L_law_23 : decode m_L_law.2.1 23 = .ok (.isub, 1) := by decide +kernel
theorem d_L_law_24 : decode m_L_law.2.1 24 = .ok (.if_icmp .gt 1072, 3) := by decide +kernel
theorem d_L_law_27 : decode m_L_law.2.1 27 = .ok (.aload_n 0, 1) := by decide +kernel
theorem d_L_law_28 : decode m_L_law.2.1 28 = .ok (.iload_n 3, 1) := by decide +kernel
theorem d_L_law_29 : decode m_L_law.2.1 29 = .ok (.iaload, 1) := by decide +kernel
theorem d_L_law_30 : decode m_L_law.2.1 30 = .ok (.bipush 31, 2) := by decide +kernel
theorem d_L_law_32 : decode m_L_law.2.1 32 = .ok (.iand, 1) := by decide +kernel
theorem d_L_law_33 : decode m_L_law.2.1 33 = .ok (.tableswitch 1057 0 29 #[135, 188, 221, 254, 287, 310, 333, 356, 419, 452, 465, 498, 531, 564, 597, 620, 643, 666, 679, 713, 756, 779, 822, 866, 929, 952, 975, 1008, 1021, 1034], 135) := by decide +kernel
theorem d_L_law_168 : decode m_L_law.2.1 168 = .ok (.aload_n 1, 1) := by decide +kernel
theorem d_L_law_169 : decode m_L_law.2.1 169 = .ok (.aload_n 0, 1) := by decide +kernel
theorem d_L_law_170 : decode m_L_law.2.1 170 = .ok (.iload_n 3, 1) := by decide +kernel
theorem d_L_law_171 : decode m_L_law.2.1 171 = .ok (.iconst 1, 1) := by decide +kernel
theorem d_L_law_172 : decode m_L_law.2.1 172 = .ok (.iadd, 1) := by decide +kernel
theorem d_L_law_173 : decode m_L_law.2.1 173 = .ok (.iaload, 1) := by decide +kernel
theorem d_L_law_174 : decode m_L_law.2.1 174 = .ok (.aload_n 0, 1) := by decide +kernel
theorem d_L_law_175 : decode m_L_law.2.1 175 = .ok (.iload_n 3, 1) := by decide +kernel
theorem d_L_law_176 : decode m_L_law.2.1 176 = .ok (.iconst 2, 1) := by decide +kernel
theorem d_L_law_177 : decode m_L_law.2.1 177 = .ok (.iadd, 1) := by decide +kernel
theorem d_L_law_178 : decode m_L_law.2.1 178 = .ok (.iaload, 1) := by decide +kernel
theorem d_L_law_179 : decode m_L_law.2.1 179 = .ok (.aload_n 0, 1) := by decide +kernel
theorem d_L_law_180 : decode m_L_law.2.1 180 = .ok (.iload_n 3, 1) := by decide +kernel
theorem d_L_law_181 : decode m_L_law.2.1 181 = .ok (.iconst 3, 1) := by decide +kernel
theorem d_L_law_182 : decode m_L_law.2.1 182 = .ok (.iadd, 1) := by decide +kernel
theorem d_L_law_183 : decode m_L_law.2.1 183 = .ok (.iaload, 1) := by decide +kernel
theorem d_L_law_184 : decode m_L_law.2.1 184 = .ok (.aload_n 0, 1) := by decide +kernel
theorem d_L_law_185 : decode m_L_law.2.1 185 = .ok (.iload_n 3, 1) := by decide +kernel
theorem d_L_law_186 : decode m_L_law.2.1 186 = .ok (.iconst 4, 1) := by decide +kernel
theorem d_L_law_187 : decode m_L_law.2.1 187 = .ok (.iadd, 1) := by decide +kernel
theorem d_L_law_188 : decode m_L_law.2.1 188 = .ok (.iaload, 1) := by decide +kernel
theorem d_L_law_189 : decode m_L_law.2.1 189 = .ok (.invokevirtual 13, 3) := by decide +kernel
theorem d_L_law_192 : decode m_L_law.2.1 192 = .ok (.aload_n 2, 1) := by decide +kernel
theorem d_L_law_193 : decode m_L_law.2.1 193 = .ok (.aload_n 0, 1) := by decide +kernel
theorem d_L_law_194 : decode m_L_law.2.1 194 = .ok (.iload_n 3, 1) := by decide +kernel
theorem d_L_law_195 : decode m_L_law.2.1 195 = .ok (.iconst 1, 1) := by decide +kernel
theorem d_L_law_196 : decode m_L_law.2.1 196 = .ok (.iadd, 1) := by decide +kernel
theorem d_L_law_197 : decode m_L_law.2.1 197 = .ok (.iaload, 1) := by decide +kernel
theorem d_L_law_198 : decode m_L_law.2.1 198 = .ok (.aload_n 0, 1) := by decide +kernel
theorem d_L_law_199 : decode m_L_law.2.1 199 = .ok (.iload_n 3, 1) := by decide +kernel
theorem d_L_law_200 : decode m_L_law.2.1 200 = .ok (.iconst 2, 1) := by decide +kernel
theorem d_L_law_201 : decode m_L_law.2.1 201 = .ok (.iadd, 1) := by decide +kernel
theorem d_L_law_202 : decode m_L_law.2.1 202 = .ok (.iaload, 1) := by decide +kernel
theorem d_L_law_203 : decode m_L_law.2.1 203 = .ok (.aload_n 0, 1) := by decide +kernel
theorem d_L_law_204 : decode m_L_law.2.1 204 = .ok (.iload_n 3, 1) := by decide +kernel
theorem d_L_law_205 : decode m_L_law.2.1 205 = .ok (.iconst 3, 1) := by decide +kernel
theorem d_L_law_206 : decode m_L_law.2.1 206 = .ok (.iadd, 1) := by decide +kernel
theorem d_L_law_207 : decode m_L_law.2.1 207 = .ok (.iaload, 1) := by decide +kernel
theorem d_L_law_208 : decode m_L_law.2.1 208 = .ok (.aload_n 0, 1) := by decide +kernel
theorem d_L_law_209 : decode m_L_law.2.1 209 = .ok (.iload_n 3, 1) := by decide +kernel
theorem d_L_law_210 : decode m_L_law.2.1 210 = .ok (.iconst 4, 1) := by decide +kernel
theorem d_L_law_211 : decode m_L_law.2.1 211 = .ok (.iadd, 1) := by decide +kernel
theorem d_L_law_212 : decode m_L_law.2.1 212 = .ok (.iaload, 1) := by decide +kernel
theorem d_L_law_213 : decode m_L_law.2.1 213 = .ok (.invokevirtual 17, 3) := by decide +kernel
theorem d_L_law_216 : decode m_L_law.2.1 216 = .ok (.if_icmp .eq 874, 3) := by decide +kernel
theorem d_L_law_219 : decode m_L_law.2.1 219 = .ok (.iconst 0, 1) := by decide +kernel
theorem d_L_law_220 : decode m_L_law.2.1 220 = .ok (.ireturn, 1) := by decide +kernel
theorem d_L_law_221 : decode m_L_law.2.1 221 = .ok (.aload_n 1, 1) := by decide +kernel
theorem d_L_law_222 : decode m_L_law.2.1 222 = .ok (.aload_n 0, 1) := by decide +kernel
theorem d_L_law_223 : decode m_L_law.2.1 223 = .ok (.iload_n 3, 1) := by decide +kernel
theorem d_L_law_224 : decode m_L_law.2.1 224 = .ok (.iconst 1, 1) := by decide +kernel
theorem d_L_law_225 : decode m_L_law.2.1 225 = .ok (.iadd, 1) := by decide +kernel
theorem d_L_law_226 : decode m_L_law.2.1 226 = .ok (.iaload, 1) := by decide +kernel
theorem d_L_law_227 : decode m_L_law.2.1 227 = .ok (.aload_n 0, 1) := by decide +kernel
theorem d_L_law_228 : decode m_L_law.2.1 228 = .ok (.iload_n 3, 1) := by decide +kernel
theorem d_L_law_229 : decode m_L_law.2.1 229 = .ok (.iconst 2, 1) := by decide +kernel
theorem d_L_law_230 : decode m_L_law.2.1 230 = .ok (.iadd, 1) := by decide +kernel
theorem d_L_law_231 : decode m_L_law.2.1 231 = .ok (.iaload, 1) := by decide +kernel
theorem d_L_law_232 : decode m_L_law.2.1 232 = .ok (.invokevirtual 18, 3) := by decide +kernel
theorem d_L_law_235 : decode m_L_law.2.1 235 = .ok (.aload_n 2, 1) := by decide +kernel
theorem d_L_law_236 : decode m_L_law.2.1 236 = .ok (.aload_n 0, 1) := by decide +kernel
theorem d_L_law_237 : decode m_L_law.2.1 237 = .ok (.iload_n 3, 1) := by decide +kernel
theorem d_L_law_238 : decode m_L_law.2.1 238 = .ok (.iconst 1, 1) := by decide +kernel
theorem d_L_law_239 : decode m_L_law.2.1 239 = .ok (.iadd, 1) := by decide +kernel
theorem d_L_law_240 : decode m_L_law.2.1 240 = .ok (.iaload, 1) := by decide +kernel
theorem d_L_law_241 : decode m_L_law.2.1 241 = .ok (.aload_n 0, 1) := by decide +kernel
theorem d_L_law_242 : decode m_L_law.2.1 242 = .ok (.iload_n 3, 1) := by decide +kernel
theorem d_L_law_243 : decode m_L_law.2.1 243 = .ok (.iconst 2, 1) := by decide +kernel
theorem d_L_law_244 : decode m_L_law.2.1 244 = .ok (.iadd, 1) := by decide +kernel
theorem d_L_law_245 : decode m_L_law.2.1 245 = .ok (.iaload, 1) := by decide +kernel
theorem d_L_law_246 : decode m_L_law.2.1 246 = .ok (.invokevirtual 22, 3) := by decide +kernel
theorem d_L_law_249 : decode m_L_law.2.1 249 = .ok (.if_icmp .eq 841, 3) := by decide +kernel
theorem d_L_law_252 : decode m_L_law.2.1 252 = .ok (.iconst 0, 1) := by decide +kernel
theorem d_L_law_253 : decode m_L_law.2.1 253 = .ok (.ireturn, 1) := by decide +kernel
theorem d_L_law_254 : decode m_L_law.2.1 254 = .ok (.aload_n 1, 1) := by decide +kernel
theorem d_L_law_255 : decode m_L_law.2.1 255 = .ok (.aload_n 0, 1) := by decide +kernel
theorem d_L_law_256 : decode m_L_law.2.1 256 = .ok (.iload_n 3, 1) := by decide +kernel
theorem d_L_law_257 : decode m_L_law.2.1 257 = .ok (.iconst 1, 1) := by decide +kernel
theorem d_L_law_258 : decode m_L_law.2.1 258 = .ok (.iadd, 1) := by decide +kernel
theorem d_L_law_259 : decode m_L_law.2.1 259 = .ok (.iaload, 1) := by decide +kernel
theorem d_L_law_260 : decode m_L_law.2.1 260 = .ok (.aload_n 0, 1) := by decide +kernel
theorem d_L_law_261 : decode m_L_law.2.1 261 = .ok (.iload_n 3, 1) := by decide +kernel
theorem d_L_law_262 : decode m_L_law.2.1 262 = .ok (.iconst 2, 1) := by decide +kernel
theorem d_L_law_263 : decode m_L_law.2.1 263 = .ok (.iadd, 1) := by decide +kernel
theorem d_L_law_264 : decode m_L_law.2.1 264 = .ok (.iaload, 1) := by decide +kernel
theorem d_L_law_265 : decode m_L_law.2.1 265 = .ok (.invokevirtual 23, 3) := by decide +kernel
theorem d_L_law_268 : decode m_L_law.2.1 268 = .ok (.aload_n 2, 1) := by decide +kernel
theorem d_L_law_269 : decode m_L_law.2.1 269 = .ok (.aload_n 0, 1) := by decide +kernel
theorem d_L_law_270 : decode m_L_law.2.1 270 = .ok (.iload_n 3, 1) := by decide +kernel
theorem d_L_law_271 : decode m_L_law.2.1 271 = .ok (.iconst 1, 1) := by decide +kernel
theorem d_L_law_272 : decode m_L_law.2.1 272 = .ok (.iadd, 1) := by decide +kernel
theorem d_L_law_273 : decode m_L_law.2.1 273 = .ok (.iaload, 1) := by decide +kernel
theorem d_L_law_274 : decode m_L_law.2.1 274 = .ok (.aload_n 0, 1) := by decide +kernel
theorem d_L_law_275 : decode m_L_law.2.1 275 = .ok (.iload_n 3, 1) := by decide +kernel
theorem d_L_law_276 : decode m_L_law.2.1 276 = .ok (.iconst 2, 1) := by decide +kernel
theorem d_L_law_277 : decode m_L_law.2.1 277 = .ok (.iadd, 1) := by decide +kernel
theorem d_L_law_278 : decode m_L_law.2.1 278 = .ok (.iaload, 1) := by decide +kernel
theorem d_L_law_279 : decode m_L_law.2.1 279 = .ok (.invokevirtual 26, 3) := by decide +kernel
theorem d_L_law_282 : decode m_L_law.2.1 282 = .ok (.if_icmp .eq 808, 3) := by decide +kernel
theorem d_L_law_285 : decode m_L_law.2.1 285 = .ok (.iconst 0, 1) := by decide +kernel
theorem d_L_law_286 : decode m_L_law.2.1 286 = .ok (.ireturn, 1) := by decide +kernel
theorem d_L_law_287 : decode m_L_law.2.1 287 = .ok (.aload_n 1, 1) := by decide +kernel
theorem d_L_law_288 : decode m_L_law.2.1 288 = .ok (.aload_n 0, 1) := by decide +kernel
theorem d_L_law_289 : decode m_L_law.2.1 289 = .ok (.iload_n 3, 1) := by decide +kernel
theorem d_L_law_290 : decode m_L_law.2.1 290 = .ok (.iconst 1, 1) := by decide +kernel
theorem d_L_law_291 : decode m_L_law.2.1 291 = .ok (.iadd, 1) := by decide +kernel
theorem d_L_law_292 : decode m_L_law.2.1 292 = .ok (.iaload, 1) := by decide +kernel
theorem d_L_law_293 : decode m_L_law.2.1 293 = .ok (.aload_n 0, 1) := by decide +kernel
theorem d_L_law_294 : decode m_L_law.2.1 294 = .ok (.iload_n 3, 1) := by decide +kernel
theorem d_L_law_295 : decode m_L_law.2.1 295 = .ok (.iconst 2, 1) := by decide +kernel
theorem d_L_law_296 : decode m_L_law.2.1 296 = .ok (.iadd, 1) := by decide +kernel
theorem d_L_law_297 : decode m_L_law.2.1 297 = .ok (.iaload, 1) := by decide +kernel
theorem d_L_law_298 : decode m_L_law.2.1 298 = .ok (.invokevirtual 27, 3) := by decide +kernel
theorem d_L_law_301 : decode m_L_law.2.1 301 = .ok (.aload_n 2, 1) := by decide +kernel
theorem d_L_law_302 : decode m_L_law.2.1 302 = .ok (.aload_n 0, 1) := by decide +kernel
theorem d_L_law_303 : decode m_L_law.2.1 303 = .ok (.iload_n 3, 1) := by decide +kernel
theorem d_L_law_304 : decode m_L_law.2.1 304 = .ok (.iconst 1, 1) := by decide +kernel
theorem d_L_law_305 : decode m_L_law.2.1 305 = .ok (.iadd, 1) := by decide +kernel
theorem d_L_law_306 : decode m_L_law.2.1 306 = .ok (.iaload, 1) := by decide +kernel
theorem d_L_law_307 : decode m_L_law.2.1 307 = .ok (.aload_n 0, 1) := by decide +kernel
theorem d_L_law_308 : decode m_L_law.2.1 308 = .ok (.iload_n 3, 1) := by decide +kernel
theorem d_L_law_309 : decode m_L_law.2.1 309 = .ok (.iconst 2, 1) := by decide +kernel
theorem d_L_law_310 : decode m_L_law.2.1 310 = .ok (.iadd, 1) := by decide +kernel
theorem d_L_law_311 : decode m_L_law.2.1 311 = .ok (.iaload, 1) := by decide +kernel
theorem d_L_law_312 : decode m_L_law.2.1 312 = .ok (.invokevirtual 30, 3) := by decide +kernel
theorem d_L_law_315 : decode m_L_law.2.1 315 = .ok (.if_icmp .eq 775, 3) := by decide +kernel
theorem d_L_law_318 : decode m_L_law.2.1 318 = .ok (.iconst 0, 1) := by decide +kernel
theorem d_L_law_319 : decode m_L_law.2.1 319 = .ok (.ireturn, 1) := by decide +kernel
theorem d_L_law_320 : decode m_L_law.2.1 320 = .ok (.aload_n 1, 1) := by decide +kernel
theorem d_L_law_321 : decode m_L_law.2.1 321 = .ok (.aload_n 0, 1) := by decide +kernel
theorem d_L_law_322 : decode m_L_law.2.1 322 = .ok (.iload_n 3, 1) := by decide +kernel
theorem d_L_law_323 : decode m_L_law.2.1 323 = .ok (.iconst 1, 1) := by decide +kernel
theorem d_L_law_324 : decode m_L_law.2.1 324 = .ok (.iadd, 1) := by decide +kernel
theorem d_L_law_325 : decode m_L_law.2.1 325 = .ok (.iaload, 1) := by decide +kernel
theorem d_L_law_326 : decode m_L_law.2.1 326 = .ok (.invokevirtual 31, 3) := by decide +kernel
theorem d_L_law_329 : decode m_L_law.2.1 329 = .ok (.aload_n 2, 1) := by decide +kernel
theorem d_L_law_330 : decode m_L_law.2.1 330 = .ok (.aload_n 0, 1) := by decide +kernel
theorem d_L_law_331 : decode m_L_law.2.1 331 = .ok (.iload_n 3, 1) := by decide +kernel
theorem d_L_law_332 : decode m_L_law.2.1 332 = .ok (.iconst 1, 1) := by decide +kernel
theorem d_L_law_333 : decode m_L_law.2.1 333 = .ok (.iadd, 1) := by decide +kernel
theorem d_L_law_334 : decode m_L_law.2.1 334 = .ok (.iaload, 1) := by decide +kernel
theorem d_L_law_335 : decode m_L_law.2.1 335 = .ok (.invokevirtual 35, 3) := by decide +kernel
theorem d_L_law_338 : decode m_L_law.2.1 338 = .ok (.if_icmp .eq 752, 3) := by decide +kernel
theorem d_L_law_341 : decode m_L_law.2.1 341 = .ok (.iconst 0, 1) := by decide +kernel
theorem d_L_law_342 : decode m_L_law.2.1 342 = .ok (.ireturn, 1) := by decide +kernel
theorem d_L_law_343 : decode m_L_law.2.1 343 = .ok (.aload_n 1, 1) := by decide +kernel
theorem d_L_law_344 : decode m_L_law.2.1 344 = .ok (.aload_n 0, 1) := by decide +kernel
theorem d_L_law_345 : decode m_L_law.2.1 345 = .ok (.iload_n 3, 1) := by decide +kernel
theorem d_L_law_346 : decode m_L_law.2.1 346 = .ok (.iconst 1, 1) := by decide +kernel
theorem d_L_law_347 : decode m_L_law.2.1 347 = .ok (.iadd, 1) := by decide +kernel
theorem d_L_law_348 : decode m_L_law.2.1 348 = .ok (.iaload, 1) := by decide +kernel
theorem d_L_law_349 : decode m_L_law.2.1 349 = .ok (.invokevirtual 36, 3) := by decide +kernel
theorem d_L_law_352 : decode m_L_law.2.1 352 = .ok (.aload_n 2, 1) := by decide +kernel
theorem d_L_law_353 : decode m_L_law.2.1 353 = .ok (.aload_n 0, 1) := by decide +kernel
theorem d_L_law_354 : decode m_L_law.2.1 354 = .ok (.iload_n 3, 1) := by decide +kernel
theorem d_L_law_355 : decode m_L_law.2.1 355 = .ok (.iconst 1, 1) := by decide +kernel
theorem d_L_law_356 : decode m_L_law.2.1 356 = .ok (.iadd, 1) := by decide +kernel
theorem d_L_law_357 : decode m_L_law.2.1 357 = .ok (.iaload, 1) := by decide +kernel
theorem d_L_law_358 : decode m_L_law.2.1 358 = .ok (.invokevirtual 39, 3) := by decide +kernel
theorem d_L_law_361 : decode m_L_law.2.1 361 = .ok (.if_icmp .eq 729, 3) := by decide +kernel
theorem d_L_law_364 : decode m_L_law.2.1 364 = .ok (.iconst 0, 1) := by decide +kernel
theorem d_L_law_365 : decode m_L_law.2.1 365 = .ok (.ireturn, 1) := by decide +kernel
theorem d_L_law_366 : decode m_L_law.2.1 366 = .ok (.aload_n 1, 1) := by decide +kernel
theorem d_L_law_367 : decode m_L_law.2.1 367 = .ok (.aload_n 0, 1) := by decide +kernel
theorem d_L_law_368 : decode m_L_law.2.1 368 = .ok (.iload_n 3, 1) := by decide +kernel
theorem d_L_law_369 : decode m_L_law.2.1 369 = .ok (.iconst 1, 1) := by decide +kernel
theorem d_L_law_370 : decode m_L_law.2.1 370 = .ok (.iadd, 1) := by decide +kernel
theorem d_L_law_371 : decode m_L_law.2.1 371 = .ok (.iaload, 1) := by decide +kernel
theorem d_L_law_372 : decode m_L_law.2.1 372 = .ok (.invokevirtual 40, 3) := by decide +kernel
theorem d_L_law_375 : decode m_L_law.2.1 375 = .ok (.aload_n 2, 1) := by decide +kernel
theorem d_L_law_376 : decode m_L_law.2.1 376 = .ok (.aload_n 0, 1) := by decide +kernel
theorem d_L_law_377 : decode m_L_law.2.1 377 = .ok (.iload_n 3, 1) := by decide +kernel
theorem d_L_law_378 : decode m_L_law.2.1 378 = .ok (.iconst 1, 1) := by decide +kernel
theorem d_L_law_379 : decode m_L_law.2.1 379 = .ok (.iadd, 1) := by decide +kernel
theorem d_L_law_380 : decode m_L_law.2.1 380 = .ok (.iaload, 1) := by decide +kernel
theorem d_L_law_381 : decode m_L_law.2.1 381 = .ok (.invokevirtual 43, 3) := by decide +kernel
theorem d_L_law_384 : decode m_L_law.2.1 384 = .ok (.if_icmp .eq 706, 3) := by decide +kernel
theorem d_L_law_387 : decode m_L_law.2.1 387 = .ok (.iconst 0, 1) := by decide +kernel
theorem d_L_law_388 : decode m_L_law.2.1 388 = .ok (.ireturn, 1) := by decide +kernel
theorem d_L_law_389 : decode m_L_law.2.1 389 = .ok (.aload_n 1, 1) := by decide +kernel
theorem d_L_law_390 : decode m_L_law.2.1 390 = .ok (.aload_n 0, 1) := by decide +kernel
theorem d_L_law_391 : decode m_L_law.2.1 391 = .ok (.iload_n 3, 1) := by decide +kernel
theorem d_L_law_392 : decode m_L_law.2.1 392 = .ok (.iconst 1, 1) := by decide +kernel
theorem d_L_law_393 : decode m_L_law.2.1 393 = .ok (.iadd, 1) := by decide +kernel
theorem d_L_law_394 : decode m_L_law.2.1 394 = .ok (.iaload, 1) := by decide +kernel
theorem d_L_law_395 : decode m_L_law.2.1 395 = .ok (.aload_n 0, 1) := by decide +kernel
theorem d_L_law_396 : decode m_L_law.2.1 396 = .ok (.iload_n 3, 1) := by decide +kernel
theorem d_L_law_397 : decode m_L_law.2.1 397 = .ok (.iconst 2, 1) := by decide +kernel
theorem d_L_law_398 : decode m_L_law.2.1 398 = .ok (.iadd, 1) := by decide +kernel
theorem d_L_law_399 : decode m_L_law.2.1 399 = .ok (.iaload, 1) := by decide +kernel
theorem d_L_law_400 : decode m_L_law.2.1 400 = .ok (.aload_n 0, 1) := by decide +kernel
theorem d_L_law_401 : decode m_L_law.2.1 401 = .ok (.iload_n 3, 1) := by decide +kernel
theorem d_L_law_402 : decode m_L_law.2.1 402 = .ok (.iconst 3, 1) := by decide +kernel
theorem d_L_law_403 : decode m_L_law.2.1 403 = .ok (.iadd, 1) := by decide +kernel
theorem d_L_law_404 : decode m_L_law.2.1 404 = .ok (.iaload, 1) := by decide +kernel
theorem d_L_law_405 : decode m_L_law.2.1 405 = .ok (.aload_n 0, 1) := by decide +kernel
theorem d_L_law_406 : decode m_L_law.2.1 406 = .ok (.iload_n 3, 1) := by decide +kernel
theorem d_L_law_407 : decode m_L_law.2.1 407 = .ok (.iconst 4, 1) := by decide +kernel
theorem d_L_law_408 : decode m_L_law.2.1 408 = .ok (.iadd, 1) := by decide +kernel
theorem d_L_law_409 : decode m_L_law.2.1 409 = .ok (.iaload, 1) := by decide +kernel
theorem d_L_law_410 : decode m_L_law.2.1 410 = .ok (.aload_n 0, 1) := by decide +kernel
theorem d_L_law_411 : decode m_L_law.2.1 411 = .ok (.iload_n 3, 1) := by decide +kernel
theorem d_L_law_412 : decode m_L_law.2.1 412 = .ok (.iconst 5, 1) := by decide +kernel
theorem d_L_law_413 : decode m_L_law.2.1 413 = .ok (.iadd, 1) := by decide +kernel
theorem d_L_law_414 : decode m_L_law.2.1 414 = .ok (.iaload, 1) := by decide +kernel
theorem d_L_law_415 : decode m_L_law.2.1 415 = .ok (.invokevirtual 44, 3) := by decide +kernel
theorem d_L_law_418 : decode m_L_law.2.1 418 = .ok (.aload_n 2, 1) := by decide +kernel
theorem d_L_law_419 : decode m_L_law.2.1 419 = .ok (.aload_n 0, 1) := by decide +kernel
theorem d_L_law_420 : decode m_L_law.2.1 420 = .ok (.iload_n 3, 1) := by decide +kernel
theorem d_L_law_421 : decode m_L_law.2.1 421 = .ok (.iconst 1, 1) := by decide +kernel
theorem d_L_law_422 : decode m_L_law.2.1 422 = .ok (.iadd, 1) := by decide +kernel
theorem d_L_law_423 : decode m_L_law.2.1 423 = .ok (.iaload, 1) := by decide +kernel
theorem d_L_law_424 : decode m_L_law.2.1 424 = .ok (.aload_n 0, 1) := by decide +kernel
theorem d_L_law_425 : decode m_L_law.2.1 425 = .ok (.iload_n 3, 1) := by decide +kernel
theorem d_L_law_426 : decode m_L_law.2.1 426 = .ok (.iconst 2, 1) := by decide +kernel
theorem d_L_law_427 : decode m_L_law.2.1 427 = .ok (.iadd, 1) := by decide +kernel
theorem d_L_law_428 : decode m_L_law.2.1 428 = .ok (.iaload, 1) := by decide +kernel
theorem d_L_law_429 : decode m_L_law.2.1 429 = .ok (.aload_n 0, 1) := by decide +kernel
theorem d_L_law_430 : decode m_L_law.2.1 430 = .ok (.iload_n 3, 1) := by decide +kernel
theorem d_L_law_431 : decode m_L_law.2.1 431 = .ok (.iconst 3, 1) := by decide +kernel
theorem d_L_law_432 : decode m_L_law.2.1 432 = .ok (.iadd, 1) := by decide +kernel
theorem d_L_law_433 : decode m_L_law.2.1 433 = .ok (.iaload, 1) := by decide +kernel
theorem d_L_law_434 : decode m_L_law.2.1 434 = .ok (.aload_n 0, 1) := by decide +kernel
theorem d_L_law_435 : decode m_L_law.2.1 435 = .ok (.iload_n 3, 1) := by decide +kernel
theorem d_L_law_436 : decode m_L_law.2.1 436 = .ok (.iconst 4, 1) := by decide +kernel
theorem d_L_law_437 : decode m_L_law.2.1 437 = .ok (.iadd, 1) := by decide +kernel
theorem d_L_law_438 : decode m_L_law.2.1 438 = .ok (.iaload, 1) := by decide +kernel
theorem d_L_law_439 : decode m_L_law.2.1 439 = .ok (.aload_n 0, 1) := by decide +kernel
theorem d_L_law_440 : decode m_L_law.2.1 440 = .ok (.iload_n 3, 1) := by decide +kernel
theorem d_L_law_441 : decode m_L_law.2.1 441 = .ok (.iconst 5, 1) := by decide +kernel
theorem d_L_law_442 : decode m_L_law.2.1 442 = .ok (.iadd, 1) := by decide +kernel
theorem d_L_law_443 : decode m_L_law.2.1 443 = .ok (.iaload, 1) := by decide +kernel
theorem d_L_law_444 : decode m_L_law.2.1 444 = .ok (.invokevirtual 48, 3) := by decide +kernel
theorem d_L_law_447 : decode m_L_law.2.1 447 = .ok (.if_icmp .eq 643, 3) := by decide +kernel
theorem d_L_law_450 : decode m_L_law.2.1 450 = .ok (.iconst 0, 1) := by decide +kernel
theorem d_L_law_451 : decode m_L_law.2.1 451 = .ok (.ireturn, 1) := by decide +kernel
theorem d_L_law_452 : decode m_L_law.2.1 452 = .ok (.aload_n 1, 1) := by decide +kernel
theorem d_L_law_453 : decode m_L_law.2.1 453 = .ok (.aload_n 0, 1) := by decide +kernel
theorem d_L_law_454 : decode m_L_law.2.1 454 = .ok (.iload_n 3, 1) := by decide +kernel
theorem d_L_law_455 : decode m_L_law.2.1 455 = .ok (.iconst 1, 1) := by decide +kernel
theorem d_L_law_456 : decode m_L_law.2.1 456 = .ok (.iadd, 1) := by decide +kernel
theorem d_L_law_457 : decode m_L_law.2.1 457 = .ok (.iaload, 1) := by decide +kernel
theorem d_L_law_458 : decode m_L_law.2.1 458 = .ok (.aload_n 0, 1) := by decide +kernel
theorem d_L_law_459 : decode m_L_law.2.1 459 = .ok (.iload_n 3, 1) := by decide +kernel
theorem d_L_law_460 : decode m_L_law.2.1 460 = .ok (.iconst 2, 1) := by decide +kernel
theorem d_L_law_461 : decode m_L_law.2.1 461 = .ok (.iadd, 1) := by decide +kernel
theorem d_L_law_462 : decode m_L_law.2.1 462 = .ok (.iaload, 1) := by decide +kernel
theorem d_L_law_463 : decode m_L_law.2.1 463 = .ok (.invokevirtual 49, 3) := by decide +kernel
theorem d_L_law_466 : decode m_L_law.2.1 466 = .ok (.aload_n 2, 1) := by decide +kernel
theorem d_L_law_467 : decode m_L_law.2.1 467 = .ok (.aload_n 0, 1) := by decide +kernel
theorem d_L_law_468 : decode m_L_law.2.1 468 = .ok (.iload_n 3, 1) := by decide +kernel
theorem d_L_law_469 : decode m_L_law.2.1 469 = .ok (.iconst 1, 1) := by decide +kernel
theorem d_L_law_470 : decode m_L_law.2.1 470 = .ok (.iadd, 1) := by decide +kernel
theorem d_L_law_471 : decode m_L_law.2.1 471 = .ok (.iaload, 1) := by decide +kernel
theorem d_L_law_472 : decode m_L_law.2.1 472 = .ok (.aload_n 0, 1) := by decide +kernel
theorem d_L_law_473 : decode m_L_law.2.1 473 = .ok (.iload_n 3, 1) := by decide +kernel
theorem d_L_law_474 : decode m_L_law.2.1 474 = .ok (.iconst 2, 1) := by decide +kernel
theorem d_L_law_475 : decode m_L_law.2.1 475 = .ok (.iadd, 1) := by decide +kernel
theorem d_L_law_476 : decode m_L_law.2.1 476 = .ok (.iaload, 1) := by decide +kernel
theorem d_L_law_477 : decode m_L_law.2.1 477 = .ok (.invokevirtual 52, 3) := by decide +kernel
theorem d_L_law_480 : decode m_L_law.2.1 480 = .ok (.if_icmp .eq 610, 3) := by decide +kernel
theorem d_L_law_483 : decode m_L_law.2.1 483 = .ok (.iconst 0, 1) := by decide +kernel
theorem d_L_law_484 : decode m_L_law.2.1 484 = .ok (.ireturn, 1) := by decide +kernel
theorem d_L_law_485 : decode m_L_law.2.1 485 = .ok (.aload_n 1, 1) := by decide +kernel
theorem d_L_law_486 : decode m_L_law.2.1 486 = .ok (.invokevirtual 53, 3) := by decide +kernel
theorem d_L_law_489 : decode m_L_law.2.1 489 = .ok (.aload_n 2, 1) := by decide +kernel
theorem d_L_law_490 : decode m_L_law.2.1 490 = .ok (.invokevirtual 57, 3) := by decide +kernel
theorem d_L_law_493 : decode m_L_law.2.1 493 = .ok (.if_icmp .eq 597, 3) := by decide +kernel
theorem d_L_law_496 : decode m_L_law.2.1 496 = .ok (.iconst 0, 1) := by decide +kernel
theorem d_L_law_497 : decode m_L_law.2.1 497 = .ok (.ireturn, 1) := by decide +kernel
theorem d_L_law_498 : decode m_L_law.2.1 498 = .ok (.aload_n 1, 1) := by decide +kernel
theorem d_L_law_499 : decode m_L_law.2.1 499 = .ok (.aload_n 0, 1) := by decide +kernel
theorem d_L_law_500 : decode m_L_law.2.1 500 = .ok (.iload_n 3, 1) := by decide +kernel
theorem d_L_law_501 : decode m_L_law.2.1 501 = .ok (.iconst 1, 1) := by decide +kernel
theorem d_L_law_502 : decode m_L_law.2.1 502 = .ok (.iadd, 1) := by decide +kernel
theorem d_L_law_503 : decode m_L_law.2.1 503 = .ok (.iaload, 1) := by decide +kernel
theorem d_L_law_504 : decode m_L_law.2.1 504 = .ok (.aload_n 0, 1) := by decide +kernel
theorem d_L_law_505 : decode m_L_law.2.1 505 = .ok (.iload_n 3, 1) := by decide +kernel
theorem d_L_law_506 : decode m_L_law.2.1 506 = .ok (.iconst 2, 1) := by decide +kernel
theorem d_L_law_507 : decode m_L_law.2.1 507 = .ok (.iadd, 1) := by decide +kernel
theorem d_L_law_508 : decode m_L_law.2.1 508 = .ok (.iaload, 1) := by decide +kernel
theorem d_L_law_509 : decode m_L_law.2.1 509 = .ok (.invokevirtual 58, 3) := by decide +kernel
theorem d_L_law_512 : decode m_L_law.2.1 512 = .ok (.aload_n 2, 1) := by decide +kernel
theorem d_L_law_513 : decode m_L_law.2.1 513 = .ok (.aload_n 0, 1) := by decide +kernel
theorem d_L_law_514 : decode m_L_law.2.1 514 = .ok (.iload_n 3, 1) := by decide +kernel
theorem d_L_law_515 : decode m_L_law.2.1 515 = .ok (.iconst 1, 1) := by decide +kernel
theorem d_L_law_516 : decode m_L_law.2.1 516 = .ok (.iadd, 1) := by decide +kernel
theorem d_L_law_517 : decode m_L_law.2.1 517 = .ok (.iaload, 1) := by decide +kernel
theorem d_L_law_518 : decode m_L_law.2.1 518 = .ok (.aload_n 0, 1) := by decide +kernel
theorem d_L_law_519 : decode m_L_law.2.1 519 = .ok (.iload_n 3, 1) := by decide +kernel
theorem d_L_law_520 : decode m_L_law.2.1 520 = .ok (.iconst 2, 1) := by decide +kernel
theorem d_L_law_521 : decode m_L_law.2.1 521 = .ok (.iadd, 1) := by decide +kernel
theorem d_L_law_522 : decode m_L_law.2.1 522 = .ok (.iaload, 1) := by decide +kernel
theorem d_L_law_523 : decode m_L_law.2.1 523 = .ok (.invokevirtual 61, 3) := by decide +kernel
theorem d_L_law_526 : decode m_L_law.2.1 526 = .ok (.if_icmp .eq 564, 3) := by decide +kernel
theorem d_L_law_529 : decode m_L_law.2.1 529 = .ok (.iconst 0, 1) := by decide +kernel
theorem d_L_law_530 : decode m_L_law.2.1 530 = .ok (.ireturn, 1) := by decide +kernel
theorem d_L_law_531 : decode m_L_law.2.1 531 = .ok (.aload_n 1, 1) := by decide +kernel
theorem d_L_law_532 : decode m_L_law.2.1 532 = .ok (.aload_n 0, 1) := by decide +kernel
theorem d_L_law_533 : decode m_L_law.2.1 533 = .ok (.iload_n 3, 1) := by decide +kernel
theorem d_L_law_534 : decode m_L_law.2.1 534 = .ok (.iconst 1, 1) := by decide +kernel
theorem d_L_law_535 : decode m_L_law.2.1 535 = .ok (.iadd, 1) := by decide +kernel
theorem d_L_law_536 : decode m_L_law.2.1 536 = .ok (.iaload, 1) := by decide +kernel
theorem d_L_law_537 : decode m_L_law.2.1 537 = .ok (.aload_n 0, 1) := by decide +kernel
theorem d_L_law_538 : decode m_L_law.2.1 538 = .ok (.iload_n 3, 1) := by decide +kernel
theorem d_L_law_539 : decode m_L_law.2.1 539 = .ok (.iconst 2, 1) := by decide +kernel
theorem d_L_law_540 : decode m_L_law.2.1 540 = .ok (.iadd, 1) := by decide +kernel
theorem d_L_law_541 : decode m_L_law.2.1 541 = .ok (.iaload, 1) := by decide +kernel
theorem d_L_law_542 : decode m_L_law.2.1 542 = .ok (.invokevirtual 62, 3) := by decide +kernel
theorem d_L_law_545 : decode m_L_law.2.1 545 = .ok (.aload_n 2, 1) := by decide +kernel
theorem d_L_law_546 : decode m_L_law.2.1 546 = .ok (.aload_n 0, 1) := by decide +kernel
theorem d_L_law_547 : decode m_L_law.2.1 547 = .ok (.iload_n 3, 1) := by decide +kernel
theorem d_L_law_548 : decode m_L_law.2.1 548 = .ok (.iconst 1, 1) := by decide +kernel
theorem d_L_law_549 : decode m_L_law.2.1 549 = .ok (.iadd, 1) := by decide +kernel
theorem d_L_law_550 : decode m_L_law.2.1 550 = .ok (.iaload, 1) := by decide +kernel
theorem d_L_law_551 : decode m_L_law.2.1 551 = .ok (.aload_n 0, 1) := by decide +kernel
theorem d_L_law_552 : decode m_L_law.2.1 552 = .ok (.iload_n 3, 1) := by decide +kernel
theorem d_L_law_553 : decode m_L_law.2.1 553 = .ok (.iconst 2, 1) := by decide +kernel
theorem d_L_law_554 : decode m_L_law.2.1 554 = .ok (.iadd, 1) := by decide +kernel
theorem d_L_law_555 : decode m_L_law.2.1 555 = .ok (.iaload, 1) := by decide +kernel
theorem d_L_law_556 : decode m_L_law.2.1 556 = .ok (.invokevirtual 65, 3) := by decide +kernel
theorem d_L_law_559 : decode m_L_law.2.1 559 = .ok (.if_icmp .eq 531, 3) := by decide +kernel
theorem d_L_law_562 : decode m_L_law.2.1 562 = .ok (.iconst 0, 1) := by decide +kernel
theorem d_L_law_563 : decode m_L_law.2.1 563 = .ok (.ireturn, 1) := by decide +kernel
theorem d_L_law_564 : decode m_L_law.2.1 564 = .ok (.aload_n 1, 1) := by decide +kernel
theorem d_L_law_565 : decode m_L_law.2.1 565 = .ok (.aload_n 0, 1) := by decide +kernel
theorem d_L_law_566 : decode m_L_law.2.1 566 = .ok (.iload_n 3, 1) := by decide +kernel
theorem d_L_law_567 : decode m_L_law.2.1 567 = .ok (.iconst 1, 1) := by decide +kernel
theorem d_L_law_568 : decode m_L_law.2.1 568 = .ok (.iadd, 1) := by decide +kernel
theorem d_L_law_569 : decode m_L_law.2.1 569 = .ok (.iaload, 1) := by decide +kernel
theorem d_L_law_570 : decode m_L_law.2.1 570 = .ok (.aload_n 0, 1) := by decide +kernel
theorem d_L_law_571 : decode m_L_law.2.1 571 = .ok (.iload_n 3, 1) := by decide +kernel
theorem d_L_law_572 : decode m_L_law.2.1 572 = .ok (.iconst 2, 1) := by decide +kernel
theorem d_L_law_573 : decode m_L_law.2.1 573 = .ok (.iadd, 1) := by decide +kernel
theorem d_L_law_574 : decode m_L_law.2.1 574 = .ok (.iaload, 1) := by decide +kernel
theorem d_L_law_575 : decode m_L_law.2.1 575 = .ok (.invokevirtual 66, 3) := by decide +kernel
theorem d_L_law_578 : decode m_L_law.2.1 578 = .ok (.aload_n 2, 1) := by decide +kernel
theorem d_L_law_579 : decode m_L_law.2.1 579 = .ok (.aload_n 0, 1) := by decide +kernel
theorem d_L_law_580 : decode m_L_law.2.1 580 = .ok (.iload_n 3, 1) := by decide +kernel
theorem d_L_law_581 : decode m_L_law.2.1 581 = .ok (.iconst 1, 1) := by decide +kernel
theorem d_L_law_582 : decode m_L_law.2.1 582 = .ok (.iadd, 1) := by decide +kernel
theorem d_L_law_583 : decode m_L_law.2.1 583 = .ok (.iaload, 1) := by decide +kernel
theorem d_L_law_584 : decode m_L_law.2.1 584 = .ok (.aload_n 0, 1) := by decide +kernel
theorem d_L_law_585 : decode m_L_law.2.1 585 = .ok (.iload_n 3, 1) := by decide +kernel
theorem d_L_law_586 : decode m_L_law.2.1 586 = .ok (.iconst 2, 1) := by decide +kernel
theorem d_L_law_587 : decode m_L_law.2.1 587 = .ok (.iadd, 1) := by decide +kernel
theorem d_L_law_588 : decode m_L_law.2.1 588 = .ok (.iaload, 1) := by decide +kernel
theorem d_L_law_589 : decode m_L_law.2.1 589 = .ok (.invokevirtual 69, 3) := by decide +kernel
theorem d_L_law_592 : decode m_L_law.2.1 592 = .ok (.if_icmp .eq 498, 3) := by decide +kernel
theorem d_L_law_595 : decode m_L_law.2.1 595 = .ok (.iconst 0, 1) := by decide +kernel
theorem d_L_law_596 : decode m_L_law.2.1 596 = .ok (.ireturn, 1) := by decide +kernel
theorem d_L_law_597 : decode m_L_law.2.1 597 = .ok (.aload_n 1, 1) := by decide +kernel
theorem d_L_law_598 : decode m_L_law.2.1 598 = .ok (.aload_n 0, 1) := by decide +kernel
theorem d_L_law_599 : decode m_L_law.2.1 599 = .ok (.iload_n 3, 1) := by decide +kernel
theorem d_L_law_600 : decode m_L_law.2.1 600 = .ok (.iconst 1, 1) := by decide +kernel
theorem d_L_law_601 : decode m_L_law.2.1 601 = .ok (.iadd, 1) := by decide +kernel
theorem d_L_law_602 : decode m_L_law.2.1 602 = .ok (.iaload, 1) := by decide +kernel
theorem d_L_law_603 : decode m_L_law.2.1 603 = .ok (.aload_n 0, 1) := by decide +kernel
theorem d_L_law_604 : decode m_L_law.2.1 604 = .ok (.iload_n 3, 1) := by decide +kernel
theorem d_L_law_605 : decode m_L_law.2.1 605 = .ok (.iconst 2, 1) := by decide +kernel
theorem d_L_law_606 : decode m_L_law.2.1 606 = .ok (.iadd, 1) := by decide +kernel
theorem d_L_law_607 : decode m_L_law.2.1 607 = .ok (.iaload, 1) := by decide +kernel
theorem d_L_law_608 : decode m_L_law.2.1 608 = .ok (.invokevirtual 70, 3) := by decide +kernel
theorem d_L_law_611 : decode m_L_law.2.1 611 = .ok (.aload_n 2, 1) := by decide +kernel
theorem d_L_law_612 : decode m_L_law.2.1 612 = .ok (.aload_n 0, 1) := by decide +kernel
theorem d_L_law_613 : decode m_L_law.2.1 613 = .ok (.iload_n 3, 1) := by decide +kernel
theorem d_L_law_614 : decode m_L_law.2.1 614 = .ok (.iconst 1, 1) := by decide +kernel
theorem d_L_law_615 : decode m_L_law.2.1 615 = .ok (.iadd, 1) := by decide +kernel
theorem d_L_law_616 : decode m_L_law.2.1 616 = .ok (.iaload, 1) := by decide +kernel
theorem d_L_law_617 : decode m_L_law.2.1 617 = .ok (.aload_n 0, 1) := by decide +kernel
theorem d_L_law_618 : decode m_L_law.2.1 618 = .ok (.iload_n 3, 1) := by decide +kernel
theorem d_L_law_619 : decode m_L_law.2.1 619 = .ok (.iconst 2, 1) := by decide +kernel
theorem d_L_law_620 : decode m_L_law.2.1 620 = .ok (.iadd, 1) := by decide +kernel
theorem d_L_law_621 : decode m_L_law.2.1 621 = .ok (.iaload, 1) := by decide +kernel
theorem d_L_law_622 : decode m_L_law.2.1 622 = .ok (.invokevirtual 73, 3) := by decide +kernel
theorem d_L_law_625 : decode m_L_law.2.1 625 = .ok (.if_icmp .eq 465, 3) := by decide +kernel
theorem d_L_law_628 : decode m_L_law.2.1 628 = .ok (.iconst 0, 1) := by decide +kernel
theorem d_L_law_629 : decode m_L_law.2.1 629 = .ok (.ireturn, 1) := by decide +kernel
theorem d_L_law_630 : decode m_L_law.2.1 630 = .ok (.aload_n 1, 1) := by decide +kernel
theorem d_L_law_631 : decode m_L_law.2.1 631 = .ok (.aload_n 0, 1) := by decide +kernel
theorem d_L_law_632 : decode m_L_law.2.1 632 = .ok (.iload_n 3, 1) := by decide +kernel
theorem d_L_law_633 : decode m_L_law.2.1 633 = .ok (.iconst 1, 1) := by decide +kernel
theorem d_L_law_634 : decode m_L_law.2.1 634 = .ok (.iadd, 1) := by decide +kernel
theorem d_L_law_635 : decode m_L_law.2.1 635 = .ok (.iaload, 1) := by decide +kernel
theorem d_L_law_636 : decode m_L_law.2.1 636 = .ok (.invokevirtual 74, 3) := by decide +kernel
theorem d_L_law_639 : decode m_L_law.2.1 639 = .ok (.aload_n 2, 1) := by decide +kernel
theorem d_L_law_640 : decode m_L_law.2.1 640 = .ok (.aload_n 0, 1) := by decide +kernel
theorem d_L_law_641 : decode m_L_law.2.1 641 = .ok (.iload_n 3, 1) := by decide +kernel
theorem d_L_law_642 : decode m_L_law.2.1 642 = .ok (.iconst 1, 1) := by decide +kernel
theorem d_L_law_643 : decode m_L_law.2.1 643 = .ok (.iadd, 1) := by decide +kernel
theorem d_L_law_644 : decode m_L_law.2.1 644 = .ok (.iaload, 1) := by decide +kernel
theorem d_L_law_645 : decode m_L_law.2.1 645 = .ok (.invokevirtual 77, 3) := by decide +kernel
theorem d_L_law_648 : decode m_L_law.2.1 648 = .ok (.if_icmp .eq 442, 3) := by decide +kernel
theorem d_L_law_651 : decode m_L_law.2.1 651 = .ok (.iconst 0, 1) := by decide +kernel
theorem d_L_law_652 : decode m_L_law.2.1 652 = .ok (.ireturn, 1) := by decide +kernel
theorem d_L_law_653 : decode m_L_law.2.1 653 = .ok (.aload_n 1, 1) := by decide +kernel
theorem d_L_law_654 : decode m_L_law.2.1 654 = .ok (.aload_n 0, 1) := by decide +kernel
theorem d_L_law_655 : decode m_L_law.2.1 655 = .ok (.iload_n 3, 1) := by decide +kernel
theorem d_L_law_656 : decode m_L_law.2.1 656 = .ok (.iconst 1, 1) := by decide +kernel
theorem d_L_law_657 : decode m_L_law.2.1 657 = .ok (.iadd, 1) := by decide +kernel
theorem d_L_law_658 : decode m_L_law.2.1 658 = .ok (.iaload, 1) := by decide +kernel
theorem d_L_law_659 : decode m_L_law.2.1 659 = .ok (.invokevirtual 78, 3) := by decide +kernel
theorem d_L_law_662 : decode m_L_law.2.1 662 = .ok (.aload_n 2, 1) := by decide +kernel
theorem d_L_law_663 : decode m_L_law.2.1 663 = .ok (.aload_n 0, 1) := by decide +kernel
theorem d_L_law_664 : decode m_L_law.2.1 664 = .ok (.iload_n 3, 1) := by decide +kernel
theorem d_L_law_665 : decode m_L_law.2.1 665 = .ok (.iconst 1, 1) := by decide +kernel
theorem d_L_law_666 : decode m_L_law.2.1 666 = .ok (.iadd, 1) := by decide +kernel
theorem d_L_law_667 : decode m_L_law.2.1 667 = .ok (.iaload, 1) := by decide +kernel
theorem d_L_law_668 : decode m_L_law.2.1 668 = .ok (.invokevirtual 81, 3) := by decide +kernel
theorem d_L_law_671 : decode m_L_law.2.1 671 = .ok (.if_icmp .eq 419, 3) := by decide +kernel
theorem d_L_law_674 : decode m_L_law.2.1 674 = .ok (.iconst 0, 1) := by decide +kernel
theorem d_L_law_675 : decode m_L_law.2.1 675 = .ok (.ireturn, 1) := by decide +kernel
theorem d_L_law_676 : decode m_L_law.2.1 676 = .ok (.aload_n 1, 1) := by decide +kernel
theorem d_L_law_677 : decode m_L_law.2.1 677 = .ok (.aload_n 0, 1) := by decide +kernel
theorem d_L_law_678 : decode m_L_law.2.1 678 = .ok (.iload_n 3, 1) := by decide +kernel
theorem d_L_law_679 : decode m_L_law.2.1 679 = .ok (.iconst 1, 1) := by decide +kernel
theorem d_L_law_680 : decode m_L_law.2.1 680 = .ok (.iadd, 1) := by decide +kernel
theorem d_L_law_681 : decode m_L_law.2.1 681 = .ok (.iaload, 1) := by decide +kernel
theorem d_L_law_682 : decode m_L_law.2.1 682 = .ok (.invokevirtual 82, 3) := by decide +kernel
theorem d_L_law_685 : decode m_L_law.2.1 685 = .ok (.aload_n 2, 1) := by decide +kernel
theorem d_L_law_686 : decode m_L_law.2.1 686 = .ok (.aload_n 0, 1) := by decide +kernel
theorem d_L_law_687 : decode m_L_law.2.1 687 = .ok (.iload_n 3, 1) := by decide +kernel
theorem d_L_law_688 : decode m_L_law.2.1 688 = .ok (.iconst 1, 1) := by decide +kernel
theorem d_L_law_689 : decode m_L_law.2.1 689 = .ok (.iadd, 1) := by decide +kernel
theorem d_L_law_690 : decode m_L_law.2.1 690 = .ok (.iaload, 1) := by decide +kernel
theorem d_L_law_691 : decode m_L_law.2.1 691 = .ok (.invokevirtual 85, 3) := by decide +kernel
theorem d_L_law_694 : decode m_L_law.2.1 694 = .ok (.if_icmp .eq 396, 3) := by decide +kernel
theorem d_L_law_697 : decode m_L_law.2.1 697 = .ok (.iconst 0, 1) := by decide +kernel
theorem d_L_law_698 : decode m_L_law.2.1 698 = .ok (.ireturn, 1) := by decide +kernel
theorem d_L_law_699 : decode m_L_law.2.1 699 = .ok (.aload_n 1, 1) := by decide +kernel
theorem d_L_law_700 : decode m_L_law.2.1 700 = .ok (.invokevirtual 86, 3) := by decide +kernel
theorem d_L_law_703 : decode m_L_law.2.1 703 = .ok (.aload_n 2, 1) := by decide +kernel
theorem d_L_law_704 : decode m_L_law.2.1 704 = .ok (.invokevirtual 89, 3) := by decide +kernel
theorem d_L_law_707 : decode m_L_law.2.1 707 = .ok (.if_icmp .eq 383, 3) := by decide +kernel
theorem d_L_law_710 : decode m_L_law.2.1 710 = .ok (.iconst 0, 1) := by decide +kernel
theorem d_L_law_711 : decode m_L_law.2.1 711 = .ok (.ireturn, 1) := by decide +kernel
theorem d_L_law_712 : decode m_L_law.2.1 712 = .ok (.aload_n 1, 1) := by decide +kernel
theorem d_L_law_713 : decode m_L_law.2.1 713 = .ok (.aload_n 0, 1) := by decide +kernel
theorem d_L_law_714 : decode m_L_law.2.1 714 = .ok (.iload_n 3, 1) := by decide +kernel
theorem d_L_law_715 : decode m_L_law.2.1 715 = .ok (.iconst 1, 1) := by decide +kernel
theorem d_L_law_716 : decode m_L_law.2.1 716 = .ok (.iadd, 1) := by decide +kernel
theorem d_L_law_717 : decode m_L_law.2.1 717 = .ok (.iaload, 1) := by decide +kernel
theorem d_L_law_718 : decode m_L_law.2.1 718 = .ok (.aload_n 0, 1) := by decide +kernel
theorem d_L_law_719 : decode m_L_law.2.1 719 = .ok (.iload_n 3, 1) := by decide +kernel
theorem d_L_law_720 : decode m_L_law.2.1 720 = .ok (.iconst 2, 1) := by decide +kernel
theorem d_L_law_721 : decode m_L_law.2.1 721 = .ok (.iadd, 1) := by decide +kernel
theorem d_L_law_722 : decode m_L_law.2.1 722 = .ok (.iaload, 1) := by decide +kernel
theorem d_L_law_723 : decode m_L_law.2.1 723 = .ok (.invokevirtual 90, 3) := by decide +kernel
theorem d_L_law_726 : decode m_L_law.2.1 726 = .ok (.aload_n 2, 1) := by decide +kernel
theorem d_L_law_727 : decode m_L_law.2.1 727 = .ok (.aload_n 0, 1) := by decide +kernel
theorem d_L_law_728 : decode m_L_law.2.1 728 = .ok (.iload_n 3, 1) := by decide +kernel
theorem d_L_law_729 : decode m_L_law.2.1 729 = .ok (.iconst 1, 1) := by decide +kernel
theorem d_L_law_730 : decode m_L_law.2.1 730 = .ok (.iadd, 1) := by decide +kernel
theorem d_L_law_731 : decode m_L_law.2.1 731 = .ok (.iaload, 1) := by decide +kernel
theorem d_L_law_732 : decode m_L_law.2.1 732 = .ok (.aload_n 0, 1) := by decide +kernel
theorem d_L_law_733 : decode m_L_law.2.1 733 = .ok (.iload_n 3, 1) := by decide +kernel
theorem d_L_law_734 : decode m_L_law.2.1 734 = .ok (.iconst 2, 1) := by decide +kernel
theorem d_L_law_735 : decode m_L_law.2.1 735 = .ok (.iadd, 1) := by decide +kernel
theorem d_L_law_736 : decode m_L_law.2.1 736 = .ok (.iaload, 1) := by decide +kernel
theorem d_L_law_737 : decode m_L_law.2.1 737 = .ok (.invokevirtual 94, 3) := by decide +kernel
theorem d_L_law_740 : decode m_L_law.2.1 740 = .ok (.lcmp, 1) := by decide +kernel
theorem d_L_law_741 : decode m_L_law.2.1 741 = .ok (.ifCond .eq 349, 3) := by decide +kernel
theorem d_L_law_744 : decode m_L_law.2.1 744 = .ok (.iconst 0, 1) := by decide +kernel
theorem d_L_law_745 : decode m_L_law.2.1 745 = .ok (.ireturn, 1) := by decide +kernel
theorem d_L_law_746 : decode m_L_law.2.1 746 = .ok (.aload_n 1, 1) := by decide +kernel
theorem d_L_law_747 : decode m_L_law.2.1 747 = .ok (.aload_n 0, 1) := by decide +kernel
theorem d_L_law_748 : decode m_L_law.2.1 748 = .ok (.iload_n 3, 1) := by decide +kernel
theorem d_L_law_749 : decode m_L_law.2.1 749 = .ok (.iconst 1, 1) := by decide +kernel
theorem d_L_law_750 : decode m_L_law.2.1 750 = .ok (.iadd, 1) := by decide +kernel
theorem d_L_law_751 : decode m_L_law.2.1 751 = .ok (.iaload, 1) := by decide +kernel
theorem d_L_law_752 : decode m_L_law.2.1 752 = .ok (.aload_n 0, 1) := by decide +kernel
theorem d_L_law_753 : decode m_L_law.2.1 753 = .ok (.iload_n 3, 1) := by decide +kernel
theorem d_L_law_754 : decode m_L_law.2.1 754 = .ok (.iconst 2, 1) := by decide +kernel
theorem d_L_law_755 : decode m_L_law.2.1 755 = .ok (.iadd, 1) := by decide +kernel
theorem d_L_law_756 : decode m_L_law.2.1 756 = .ok (.iaload, 1) := by decide +kernel
theorem d_L_law_757 : decode m_L_law.2.1 757 = .ok (.aload_n 0, 1) := by decide +kernel
theorem d_L_law_758 : decode m_L_law.2.1 758 = .ok (.iload_n 3, 1) := by decide +kernel
theorem d_L_law_759 : decode m_L_law.2.1 759 = .ok (.iconst 3, 1) := by decide +kernel
theorem d_L_law_760 : decode m_L_law.2.1 760 = .ok (.iadd, 1) := by decide +kernel
theorem d_L_law_761 : decode m_L_law.2.1 761 = .ok (.iaload, 1) := by decide +kernel
theorem d_L_law_762 : decode m_L_law.2.1 762 = .ok (.invokevirtual 95, 3) := by decide +kernel
theorem d_L_law_765 : decode m_L_law.2.1 765 = .ok (.aload_n 2, 1) := by decide +kernel
theorem d_L_law_766 : decode m_L_law.2.1 766 = .ok (.aload_n 0, 1) := by decide +kernel
theorem d_L_law_767 : decode m_L_law.2.1 767 = .ok (.iload_n 3, 1) := by decide +kernel
theorem d_L_law_768 : decode m_L_law.2.1 768 = .ok (.iconst 1, 1) := by decide +kernel
theorem d_L_law_769 : decode m_L_law.2.1 769 = .ok (.iadd, 1) := by decide +kernel
theorem d_L_law_770 : decode m_L_law.2.1 770 = .ok (.iaload, 1) := by decide +kernel
theorem d_L_law_771 : decode m_L_law.2.1 771 = .ok (.aload_n 0, 1) := by decide +kernel
theorem d_L_law_772 : decode m_L_law.2.1 772 = .ok (.iload_n 3, 1) := by decide +kernel
theorem d_L_law_773 : decode m_L_law.2.1 773 = .ok (.iconst 2, 1) := by decide +kernel
theorem d_L_law_774 : decode m_L_law.2.1 774 = .ok (.iadd, 1) := by decide +kernel
theorem d_L_law_775 : decode m_L_law.2.1 775 = .ok (.iaload, 1) := by decide +kernel
theorem d_L_law_776 : decode m_L_law.2.1 776 = .ok (.aload_n 0, 1) := by decide +kernel
theorem d_L_law_777 : decode m_L_law.2.1 777 = .ok (.iload_n 3, 1) := by decide +kernel
theorem d_L_law_778 : decode m_L_law.2.1 778 = .ok (.iconst 3, 1) := by decide +kernel
theorem d_L_law_779 : decode m_L_law.2.1 779 = .ok (.iadd, 1) := by decide +kernel
theorem d_L_law_780 : decode m_L_law.2.1 780 = .ok (.iaload, 1) := by decide +kernel
theorem d_L_law_781 : decode m_L_law.2.1 781 = .ok (.invokevirtual 99, 3) := by decide +kernel
theorem d_L_law_784 : decode m_L_law.2.1 784 = .ok (.if_icmp .eq 306, 3) := by decide +kernel
theorem d_L_law_787 : decode m_L_law.2.1 787 = .ok (.iconst 0, 1) := by decide +kernel
theorem d_L_law_788 : decode m_L_law.2.1 788 = .ok (.ireturn, 1) := by decide +kernel
theorem d_L_law_789 : decode m_L_law.2.1 789 = .ok (.aload_n 1, 1) := by decide +kernel
theorem d_L_law_790 : decode m_L_law.2.1 790 = .ok (.aload_n 0, 1) := by decide +kernel
theorem d_L_law_791 : decode m_L_law.2.1 791 = .ok (.iload_n 3, 1) := by decide +kernel
theorem d_L_law_792 : decode m_L_law.2.1 792 = .ok (.iconst 1, 1) := by decide +kernel
theorem d_L_law_793 : decode m_L_law.2.1 793 = .ok (.iadd, 1) := by decide +kernel
theorem d_L_law_794 : decode m_L_law.2.1 794 = .ok (.iaload, 1) := by decide +kernel
theorem d_L_law_795 : decode m_L_law.2.1 795 = .ok (.invokevirtual 100, 3) := by decide +kernel
theorem d_L_law_798 : decode m_L_law.2.1 798 = .ok (.aload_n 2, 1) := by decide +kernel
theorem d_L_law_799 : decode m_L_law.2.1 799 = .ok (.aload_n 0, 1) := by decide +kernel
theorem d_L_law_800 : decode m_L_law.2.1 800 = .ok (.iload_n 3, 1) := by decide +kernel
theorem d_L_law_801 : decode m_L_law.2.1 801 = .ok (.iconst 1, 1) := by decide +kernel
theorem d_L_law_802 : decode m_L_law.2.1 802 = .ok (.iadd, 1) := by decide +kernel
theorem d_L_law_803 : decode m_L_law.2.1 803 = .ok (.iaload, 1) := by decide +kernel
theorem d_L_law_804 : decode m_L_law.2.1 804 = .ok (.invokevirtual 103, 3) := by decide +kernel
theorem d_L_law_807 : decode m_L_law.2.1 807 = .ok (.if_icmp .eq 283, 3) := by decide +kernel
theorem d_L_law_810 : decode m_L_law.2.1 810 = .ok (.iconst 0, 1) := by decide +kernel
theorem d_L_law_811 : decode m_L_law.2.1 811 = .ok (.ireturn, 1) := by decide +kernel
theorem d_L_law_812 : decode m_L_law.2.1 812 = .ok (.aload_n 1, 1) := by decide +kernel
theorem d_L_law_813 : decode m_L_law.2.1 813 = .ok (.aload_n 0, 1) := by decide +kernel
theorem d_L_law_814 : decode m_L_law.2.1 814 = .ok (.iload_n 3, 1) := by decide +kernel
theorem d_L_law_815 : decode m_L_law.2.1 815 = .ok (.iconst 1, 1) := by decide +kernel
theorem d_L_law_816 : decode m_L_law.2.1 816 = .ok (.iadd, 1) := by decide +kernel
theorem d_L_law_817 : decode m_L_law.2.1 817 = .ok (.iaload, 1) := by decide +kernel
theorem d_L_law_818 : decode m_L_law.2.1 818 = .ok (.aload_n 0, 1) := by decide +kernel
theorem d_L_law_819 : decode m_L_law.2.1 819 = .ok (.iload_n 3, 1) := by decide +kernel
theorem d_L_law_820 : decode m_L_law.2.1 820 = .ok (.iconst 2, 1) := by decide +kernel
theorem d_L_law_821 : decode m_L_law.2.1 821 = .ok (.iadd, 1) := by decide +kernel
theorem d_L_law_822 : decode m_L_law.2.1 822 = .ok (.iaload, 1) := by decide +kernel
theorem d_L_law_823 : decode m_L_law.2.1 823 = .ok (.aload_n 0, 1) := by decide +kernel
theorem d_L_law_824 : decode m_L_law.2.1 824 = .ok (.iload_n 3, 1) := by decide +kernel
theorem d_L_law_825 : decode m_L_law.2.1 825 = .ok (.iconst 3, 1) := by decide +kernel
theorem d_L_law_826 : decode m_L_law.2.1 826 = .ok (.iadd, 1) := by decide +kernel
theorem d_L_law_827 : decode m_L_law.2.1 827 = .ok (.iaload, 1) := by decide +kernel
theorem d_L_law_828 : decode m_L_law.2.1 828 = .ok (.invokevirtual 104, 3) := by decide +kernel
theorem d_L_law_831 : decode m_L_law.2.1 831 = .ok (.aload_n 2, 1) := by decide +kernel
theorem d_L_law_832 : decode m_L_law.2.1 832 = .ok (.aload_n 0, 1) := by decide +kernel
theorem d_L_law_833 : decode m_L_law.2.1 833 = .ok (.iload_n 3, 1) := by decide +kernel
theorem d_L_law_834 : decode m_L_law.2.1 834 = .ok (.iconst 1, 1) := by decide +kernel
theorem d_L_law_835 : decode m_L_law.2.1 835 = .ok (.iadd, 1) := by decide +kernel
theorem d_L_law_836 : decode m_L_law.2.1 836 = .ok (.iaload, 1) := by decide +kernel
theorem d_L_law_837 : decode m_L_law.2.1 837 = .ok (.aload_n 0, 1) := by decide +kernel
theorem d_L_law_838 : decode m_L_law.2.1 838 = .ok (.iload_n 3, 1) := by decide +kernel
theorem d_L_law_839 : decode m_L_law.2.1 839 = .ok (.iconst 2, 1) := by decide +kernel
theorem d_L_law_840 : decode m_L_law.2.1 840 = .ok (.iadd, 1) := by decide +kernel
theorem d_L_law_841 : decode m_L_law.2.1 841 = .ok (.iaload, 1) := by decide +kernel
theorem d_L_law_842 : decode m_L_law.2.1 842 = .ok (.aload_n 0, 1) := by decide +kernel
theorem d_L_law_843 : decode m_L_law.2.1 843 = .ok (.iload_n 3, 1) := by decide +kernel
theorem d_L_law_844 : decode m_L_law.2.1 844 = .ok (.iconst 3, 1) := by decide +kernel
theorem d_L_law_845 : decode m_L_law.2.1 845 = .ok (.iadd, 1) := by decide +kernel
theorem d_L_law_846 : decode m_L_law.2.1 846 = .ok (.iaload, 1) := by decide +kernel
theorem d_L_law_847 : decode m_L_law.2.1 847 = .ok (.invokevirtual 107, 3) := by decide +kernel
theorem d_L_law_850 : decode m_L_law.2.1 850 = .ok (.if_icmp .eq 240, 3) := by decide +kernel
theorem d_L_law_853 : decode m_L_law.2.1 853 = .ok (.iconst 0, 1) := by decide +kernel
theorem d_L_law_854 : decode m_L_law.2.1 854 = .ok (.ireturn, 1) := by decide +kernel
theorem d_L_law_855 : decode m_L_law.2.1 855 = .ok (.aload_n 1, 1) := by decide +kernel
theorem d_L_law_856 : decode m_L_law.2.1 856 = .ok (.aload_n 0, 1) := by decide +kernel
theorem d_L_law_857 : decode m_L_law.2.1 857 = .ok (.iload_n 3, 1) := by decide +kernel
theorem d_L_law_858 : decode m_L_law.2.1 858 = .ok (.iconst 1, 1) := by decide +kernel
theorem d_L_law_859 : decode m_L_law.2.1 859 = .ok (.iadd, 1) := by decide +kernel
theorem d_L_law_860 : decode m_L_law.2.1 860 = .ok (.iaload, 1) := by decide +kernel
theorem d_L_law_861 : decode m_L_law.2.1 861 = .ok (.aload_n 0, 1) := by decide +kernel
theorem d_L_law_862 : decode m_L_law.2.1 862 = .ok (.iload_n 3, 1) := by decide +kernel
theorem d_L_law_863 : decode m_L_law.2.1 863 = .ok (.iconst 2, 1) := by decide +kernel
theorem d_L_law_864 : decode m_L_law.2.1 864 = .ok (.iadd, 1) := by decide +kernel
theorem d_L_law_865 : decode m_L_law.2.1 865 = .ok (.iaload, 1) := by decide +kernel
theorem d_L_law_866 : decode m_L_law.2.1 866 = .ok (.aload_n 0, 1) := by decide +kernel
theorem d_L_law_867 : decode m_L_law.2.1 867 = .ok (.iload_n 3, 1) := by decide +kernel
theorem d_L_law_868 : decode m_L_law.2.1 868 = .ok (.iconst 3, 1) := by decide +kernel
theorem d_L_law_869 : decode m_L_law.2.1 869 = .ok (.iadd, 1) := by decide +kernel
theorem d_L_law_870 : decode m_L_law.2.1 870 = .ok (.iaload, 1) := by decide +kernel
theorem d_L_law_871 : decode m_L_law.2.1 871 = .ok (.invokevirtual 108, 3) := by decide +kernel
theorem d_L_law_874 : decode m_L_law.2.1 874 = .ok (.aload_n 2, 1) := by decide +kernel
theorem d_L_law_875 : decode m_L_law.2.1 875 = .ok (.aload_n 0, 1) := by decide +kernel
theorem d_L_law_876 : decode m_L_law.2.1 876 = .ok (.iload_n 3, 1) := by decide +kernel
theorem d_L_law_877 : decode m_L_law.2.1 877 = .ok (.iconst 1, 1) := by decide +kernel
theorem d_L_law_878 : decode m_L_law.2.1 878 = .ok (.iadd, 1) := by decide +kernel
theorem d_L_law_879 : decode m_L_law.2.1 879 = .ok (.iaload, 1) := by decide +kernel
theorem d_L_law_880 : decode m_L_law.2.1 880 = .ok (.aload_n 0, 1) := by decide +kernel
theorem d_L_law_881 : decode m_L_law.2.1 881 = .ok (.iload_n 3, 1) := by decide +kernel
theorem d_L_law_882 : decode m_L_law.2.1 882 = .ok (.iconst 2, 1) := by decide +kernel
theorem d_L_law_883 : decode m_L_law.2.1 883 = .ok (.iadd, 1) := by decide +kernel
theorem d_L_law_884 : decode m_L_law.2.1 884 = .ok (.iaload, 1) := by decide +kernel
theorem d_L_law_885 : decode m_L_law.2.1 885 = .ok (.aload_n 0, 1) := by decide +kernel
theorem d_L_law_886 : decode m_L_law.2.1 886 = .ok (.iload_n 3, 1) := by decide +kernel
theorem d_L_law_887 : decode m_L_law.2.1 887 = .ok (.iconst 3, 1) := by decide +kernel
theorem d_L_law_888 : decode m_L_law.2.1 888 = .ok (.iadd, 1) := by decide +kernel
theorem d_L_law_889 : decode m_L_law.2.1 889 = .ok (.iaload, 1) := by decide +kernel
theorem d_L_law_890 : decode m_L_law.2.1 890 = .ok (.invokevirtual 112, 3) := by decide +kernel
theorem d_L_law_893 : decode m_L_law.2.1 893 = .ok (.lcmp, 1) := by decide +kernel
theorem d_L_law_894 : decode m_L_law.2.1 894 = .ok (.ifCond .eq 196, 3) := by decide +kernel
theorem d_L_law_897 : decode m_L_law.2.1 897 = .ok (.iconst 0, 1) := by decide +kernel
theorem d_L_law_898 : decode m_L_law.2.1 898 = .ok (.ireturn, 1) := by decide +kernel
theorem d_L_law_899 : decode m_L_law.2.1 899 = .ok (.aload_n 1, 1) := by decide +kernel
theorem d_L_law_900 : decode m_L_law.2.1 900 = .ok (.aload_n 0, 1) := by decide +kernel
theorem d_L_law_901 : decode m_L_law.2.1 901 = .ok (.iload_n 3, 1) := by decide +kernel
theorem d_L_law_902 : decode m_L_law.2.1 902 = .ok (.iconst 1, 1) := by decide +kernel
theorem d_L_law_903 : decode m_L_law.2.1 903 = .ok (.iadd, 1) := by decide +kernel
theorem d_L_law_904 : decode m_L_law.2.1 904 = .ok (.iaload, 1) := by decide +kernel
theorem d_L_law_905 : decode m_L_law.2.1 905 = .ok (.aload_n 0, 1) := by decide +kernel
theorem d_L_law_906 : decode m_L_law.2.1 906 = .ok (.iload_n 3, 1) := by decide +kernel
theorem d_L_law_907 : decode m_L_law.2.1 907 = .ok (.iconst 2, 1) := by decide +kernel
theorem d_L_law_908 : decode m_L_law.2.1 908 = .ok (.iadd, 1) := by decide +kernel
theorem d_L_law_909 : decode m_L_law.2.1 909 = .ok (.iaload, 1) := by decide +kernel
theorem d_L_law_910 : decode m_L_law.2.1 910 = .ok (.aload_n 0, 1) := by decide +kernel
theorem d_L_law_911 : decode m_L_law.2.1 911 = .ok (.iload_n 3, 1) := by decide +kernel
theorem d_L_law_912 : decode m_L_law.2.1 912 = .ok (.iconst 3, 1) := by decide +kernel
theorem d_L_law_913 : decode m_L_law.2.1 913 = .ok (.iadd, 1) := by decide +kernel
theorem d_L_law_914 : decode m_L_law.2.1 914 = .ok (.iaload, 1) := by decide +kernel
theorem d_L_law_915 : decode m_L_law.2.1 915 = .ok (.aload_n 0, 1) := by decide +kernel
theorem d_L_law_916 : decode m_L_law.2.1 916 = .ok (.iload_n 3, 1) := by decide +kernel
theorem d_L_law_917 : decode m_L_law.2.1 917 = .ok (.iconst 4, 1) := by decide +kernel
theorem d_L_law_918 : decode m_L_law.2.1 918 = .ok (.iadd, 1) := by decide +kernel
theorem d_L_law_919 : decode m_L_law.2.1 919 = .ok (.iaload, 1) := by decide +kernel
theorem d_L_law_920 : decode m_L_law.2.1 920 = .ok (.aload_n 0, 1) := by decide +kernel
theorem d_L_law_921 : decode m_L_law.2.1 921 = .ok (.iload_n 3, 1) := by decide +kernel
theorem d_L_law_922 : decode m_L_law.2.1 922 = .ok (.iconst 5, 1) := by decide +kernel
theorem d_L_law_923 : decode m_L_law.2.1 923 = .ok (.iadd, 1) := by decide +kernel
theorem d_L_law_924 : decode m_L_law.2.1 924 = .ok (.iaload, 1) := by decide +kernel
theorem d_L_law_925 : decode m_L_law.2.1 925 = .ok (.invokevirtual 113, 3) := by decide +kernel
theorem d_L_law_928 : decode m_L_law.2.1 928 = .ok (.aload_n 2, 1) := by decide +kernel
theorem d_L_law_929 : decode m_L_law.2.1 929 = .ok (.aload_n 0, 1) := by decide +kernel
theorem d_L_law_930 : decode m_L_law.2.1 930 = .ok (.iload_n 3, 1) := by decide +kernel
theorem d_L_law_931 : decode m_L_law.2.1 931 = .ok (.iconst 1, 1) := by decide +kernel
theorem d_L_law_932 : decode m_L_law.2.1 932 = .ok (.iadd, 1) := by decide +kernel
theorem d_L_law_933 : decode m_L_law.2.1 933 = .ok (.iaload, 1) := by decide +kernel
theorem d_L_law_934 : decode m_L_law.2.1 934 = .ok (.aload_n 0, 1) := by decide +kernel
theorem d_L_law_935 : decode m_L_law.2.1 935 = .ok (.iload_n 3, 1) := by decide +kernel
theorem d_L_law_936 : decode m_L_law.2.1 936 = .ok (.iconst 2, 1) := by decide +kernel
theorem d_L_law_937 : decode m_L_law.2.1 937 = .ok (.iadd, 1) := by decide +kernel
theorem d_L_law_938 : decode m_L_law.2.1 938 = .ok (.iaload, 1) := by decide +kernel
theorem d_L_law_939 : decode m_L_law.2.1 939 = .ok (.aload_n 0, 1) := by decide +kernel
theorem d_L_law_940 : decode m_L_law.2.1 940 = .ok (.iload_n 3, 1) := by decide +kernel
theorem d_L_law_941 : decode m_L_law.2.1 941 = .ok (.iconst 3, 1) := by decide +kernel
theorem d_L_law_942 : decode m_L_law.2.1 942 = .ok (.iadd, 1) := by decide +kernel
theorem d_L_law_943 : decode m_L_law.2.1 943 = .ok (.iaload, 1) := by decide +kernel
theorem d_L_law_944 : decode m_L_law.2.1 944 = .ok (.aload_n 0, 1) := by decide +kernel
theorem d_L_law_945 : decode m_L_law.2.1 945 = .ok (.iload_n 3, 1) := by decide +kernel
theorem d_L_law_946 : decode m_L_law.2.1 946 = .ok (.iconst 4, 1) := by decide +kernel
theorem d_L_law_947 : decode m_L_law.2.1 947 = .ok (.iadd, 1) := by decide +kernel
theorem d_L_law_948 : decode m_L_law.2.1 948 = .ok (.iaload, 1) := by decide +kernel
theorem d_L_law_949 : decode m_L_law.2.1 949 = .ok (.aload_n 0, 1) := by decide +kernel
theorem d_L_law_950 : decode m_L_law.2.1 950 = .ok (.iload_n 3, 1) := by decide +kernel
theorem d_L_law_951 : decode m_L_law.2.1 951 = .ok (.iconst 5, 1) := by decide +kernel
theorem d_L_law_952 : decode m_L_law.2.1 952 = .ok (.iadd, 1) := by decide +kernel
theorem d_L_law_953 : decode m_L_law.2.1 953 = .ok (.iaload, 1) := by decide +kernel
theorem d_L_law_954 : decode m_L_law.2.1 954 = .ok (.invokevirtual 116, 3) := by decide +kernel
theorem d_L_law_957 : decode m_L_law.2.1 957 = .ok (.if_icmp .eq 133, 3) := by decide +kernel
theorem d_L_law_960 : decode m_L_law.2.1 960 = .ok (.iconst 0, 1) := by decide +kernel
theorem d_L_law_961 : decode m_L_law.2.1 961 = .ok (.ireturn, 1) := by decide +kernel
theorem d_L_law_962 : decode m_L_law.2.1 962 = .ok (.aload_n 1, 1) := by decide +kernel
theorem d_L_law_963 : decode m_L_law.2.1 963 = .ok (.aload_n 0, 1) := by decide +kernel
theorem d_L_law_964 : decode m_L_law.2.1 964 = .ok (.iload_n 3, 1) := by decide +kernel
theorem d_L_law_965 : decode m_L_law.2.1 965 = .ok (.iconst 1, 1) := by decide +kernel
theorem d_L_law_966 : decode m_L_law.2.1 966 = .ok (.iadd, 1) := by decide +kernel
theorem d_L_law_967 : decode m_L_law.2.1 967 = .ok (.iaload, 1) := by decide +kernel
theorem d_L_law_968 : decode m_L_law.2.1 968 = .ok (.invokevirtual 117, 3) := by decide +kernel
theorem d_L_law_971 : decode m_L_law.2.1 971 = .ok (.aload_n 2, 1) := by decide +kernel
theorem d_L_law_972 : decode m_L_law.2.1 972 = .ok (.aload_n 0, 1) := by decide +kernel
theorem d_L_law_973 : decode m_L_law.2.1 973 = .ok (.iload_n 3, 1) := by decide +kernel
theorem d_L_law_974 : decode m_L_law.2.1 974 = .ok (.iconst 1, 1) := by decide +kernel
theorem d_L_law_975 : decode m_L_law.2.1 975 = .ok (.iadd, 1) := by decide +kernel
theorem d_L_law_976 : decode m_L_law.2.1 976 = .ok (.iaload, 1) := by decide +kernel
theorem d_L_law_977 : decode m_L_law.2.1 977 = .ok (.invokevirtual 120, 3) := by decide +kernel
theorem d_L_law_980 : decode m_L_law.2.1 980 = .ok (.if_icmp .eq 110, 3) := by decide +kernel
theorem d_L_law_983 : decode m_L_law.2.1 983 = .ok (.iconst 0, 1) := by decide +kernel
theorem d_L_law_984 : decode m_L_law.2.1 984 = .ok (.ireturn, 1) := by decide +kernel
theorem d_L_law_985 : decode m_L_law.2.1 985 = .ok (.aload_n 1, 1) := by decide +kernel
theorem d_L_law_986 : decode m_L_law.2.1 986 = .ok (.aload_n 0, 1) := by decide +kernel
theorem d_L_law_987 : decode m_L_law.2.1 987 = .ok (.iload_n 3, 1) := by decide +kernel
theorem d_L_law_988 : decode m_L_law.2.1 988 = .ok (.iconst 1, 1) := by decide +kernel
theorem d_L_law_989 : decode m_L_law.2.1 989 = .ok (.iadd, 1) := by decide +kernel
theorem d_L_law_990 : decode m_L_law.2.1 990 = .ok (.iaload, 1) := by decide +kernel
theorem d_L_law_991 : decode m_L_law.2.1 991 = .ok (.invokevirtual 121, 3) := by decide +kernel
theorem d_L_law_994 : decode m_L_law.2.1 994 = .ok (.aload_n 2, 1) := by decide +kernel
theorem d_L_law_995 : decode m_L_law.2.1 995 = .ok (.aload_n 0, 1) := by decide +kernel
theorem d_L_law_996 : decode m_L_law.2.1 996 = .ok (.iload_n 3, 1) := by decide +kernel
theorem d_L_law_997 : decode m_L_law.2.1 997 = .ok (.iconst 1, 1) := by decide +kernel
theorem d_L_law_998 : decode m_L_law.2.1 998 = .ok (.iadd, 1) := by decide +kernel
theorem d_L_law_999 : decode m_L_law.2.1 999 = .ok (.iaload, 1) := by decide +kernel
theorem d_L_law_1000 : decode m_L_law.2.1 1000 = .ok (.invokevirtual 124, 3) := by decide +kernel
theorem d_L_law_1003 : decode m_L_law.2.1 1003 = .ok (.if_icmp .eq 87, 3) := by decide +kernel
theorem d_L_law_1006 : decode m_L_law.2.1 1006 = .ok (.iconst 0, 1) := by decide +kernel
theorem d_L_law_1007 : decode m_L_law.2.1 1007 = .ok (.ireturn, 1) := by decide +kernel
theorem d_L_law_1008 : decode m_L_law.2.1 1008 = .ok (.aload_n 1, 1) := by decide +kernel
theorem d_L_law_1009 : decode m_L_law.2.1 1009 = .ok (.aload_n 0, 1) := by decide +kernel
theorem d_L_law_1010 : decode m_L_law.2.1 1010 = .ok (.iload_n 3, 1) := by decide +kernel
theorem d_L_law_1011 : decode m_L_law.2.1 1011 = .ok (.iconst 1, 1) := by decide +kernel
theorem d_L_law_1012 : decode m_L_law.2.1 1012 = .ok (.iadd, 1) := by decide +kernel
theorem d_L_law_1013 : decode m_L_law.2.1 1013 = .ok (.iaload, 1) := by decide +kernel
theorem d_L_law_1014 : decode m_L_law.2.1 1014 = .ok (.aload_n 0, 1) := by decide +kernel
theorem d_L_law_1015 : decode m_L_law.2.1 1015 = .ok (.iload_n 3, 1) := by decide +kernel
theorem d_L_law_1016 : decode m_L_law.2.1 1016 = .ok (.iconst 2, 1) := by decide +kernel
theorem d_L_law_1017 : decode m_L_law.2.1 1017 = .ok (.iadd, 1) := by decide +kernel
theorem d_L_law_1018 : decode m_L_law.2.1 1018 = .ok (.iaload, 1) := by decide +kernel
theorem d_L_law_1019 : decode m_L_law.2.1 1019 = .ok (.invokevirtual 125, 3) := by decide +kernel
theorem d_L_law_1022 : decode m_L_law.2.1 1022 = .ok (.aload_n 2, 1) := by decide +kernel
theorem d_L_law_1023 : decode m_L_law.2.1 1023 = .ok (.aload_n 0, 1) := by decide +kernel
theorem d_L_law_1024 : decode m_L_law.2.1 1024 = .ok (.iload_n 3, 1) := by decide +kernel
theorem d_L_law_1025 : decode m_L_law.2.1 1025 = .ok (.iconst 1, 1) := by decide +kernel
theorem d_L_law_1026 : decode m_L_law.2.1 1026 = .ok (.iadd, 1) := by decide +kernel
theorem d_L_law_1027 : decode m_L_law.2.1 1027 = .ok (.iaload, 1) := by decide +kernel
theorem d_L_law_1028 : decode m_L_law.2.1 1028 = .ok (.aload_n 0, 1) := by decide +kernel
theorem d_L_law_1029 : decode m_L_law.2.1 1029 = .ok (.iload_n 3, 1) := by decide +kernel
theorem d_L_law_1030 : decode m_L_law.2.1 1030 = .ok (.iconst 2, 1) := by decide +kernel
theorem d_L_law_1031 : decode m_L_law.2.1 1031 = .ok (.iadd, 1) := by decide +kernel
theorem d_L_law_1032 : decode m_L_law.2.1 1032 = .ok (.iaload, 1) := by decide +kernel
theorem d_L_law_1033 : decode m_L_law.2.1 1033 = .ok (.invokevirtual 128, 3) := by decide +kernel
theorem d_L_law_1036 : decode m_L_law.2.1 1036 = .ok (.if_icmp .eq 54, 3) := by decide +kernel
theorem d_L_law_1039 : decode m_L_law.2.1 1039 = .ok (.iconst 0, 1) := by decide +kernel
theorem d_L_law_1040 : decode m_L_law.2.1 1040 = .ok (.ireturn, 1) := by decide +kernel
theorem d_L_law_1041 : decode m_L_law.2.1 1041 = .ok (.aload_n 1, 1) := by decide +kernel
theorem d_L_law_1042 : decode m_L_law.2.1 1042 = .ok (.invokevirtual 129, 3) := by decide +kernel
theorem d_L_law_1045 : decode m_L_law.2.1 1045 = .ok (.aload_n 2, 1) := by decide +kernel
theorem d_L_law_1046 : decode m_L_law.2.1 1046 = .ok (.invokevirtual 132, 3) := by decide +kernel
theorem d_L_law_1049 : decode m_L_law.2.1 1049 = .ok (.if_icmp .eq 41, 3) := by decide +kernel
theorem d_L_law_1052 : decode m_L_law.2.1 1052 = .ok (.iconst 0, 1) := by decide +kernel
theorem d_L_law_1053 : decode m_L_law.2.1 1053 = .ok (.ireturn, 1) := by decide +kernel
theorem d_L_law_1054 : decode m_L_law.2.1 1054 = .ok (.aload_n 1, 1) := by decide +kernel
theorem d_L_law_1055 : decode m_L_law.2.1 1055 = .ok (.invokevirtual 133, 3) := by decide +kernel
theorem d_L_law_1058 : decode m_L_law.2.1 1058 = .ok (.aload_n 2, 1) := by decide +kernel
theorem d_L_law_1059 : decode m_L_law.2.1 1059 = .ok (.invokevirtual 136, 3) := by decide +kernel
theorem d_L_law_1062 : decode m_L_law.2.1 1062 = .ok (.if_icmp .eq 28, 3) := by decide +kernel
theorem d_L_law_1065 : decode m_L_law.2.1 1065 = .ok (.iconst 0, 1) := by decide +kernel
theorem d_L_law_1066 : decode m_L_law.2.1 1066 = .ok (.ireturn, 1) := by decide +kernel
theorem d_L_law_1067 : decode m_L_law.2.1 1067 = .ok (.aload_n 1, 1) := by decide +kernel
theorem d_L_law_1068 : decode m_L_law.2.1 1068 = .ok (.aload_n 0, 1) := by decide +kernel
theorem d_L_law_1069 : decode m_L_law.2.1 1069 = .ok (.iload_n 3, 1) := by decide +kernel
theorem d_L_law_1070 : decode m_L_law.2.1 1070 = .ok (.iconst 1, 1) := by decide +kernel
theorem d_L_law_1071 : decode m_L_law.2.1 1071 = .ok (.iadd, 1) := by decide +kernel
theorem d_L_law_1072 : decode m_L_law.2.1 1072 = .ok (.iaload, 1) := by decide +kernel
theorem d_L_law_1073 : decode m_L_law.2.1 1073 = .ok (.invokevirtual 137, 3) := by decide +kernel
theorem d_L_law_1076 : decode m_L_law.2.1 1076 = .ok (.aload_n 2, 1) := by decide +kernel
theorem d_L_law_1077 : decode m_L_law.2.1 1077 = .ok (.aload_n 0, 1) := by decide +kernel
theorem d_L_law_1078 : decode m_L_law.2.1 1078 = .ok (.iload_n 3, 1) := by decide +kernel
theorem d_L_law_1079 : decode m_L_law.2.1 1079 = .ok (.iconst 1, 1) := by decide +kernel
theorem d_L_law_1080 : decode m_L_law.2.1 1080 = .ok (.iadd, 1) := by decide +kernel
theorem d_L_law_1081 : decode m_L_law.2.1 1081 = .ok (.iaload, 1) := by decide +kernel
theorem d_L_law_1082 : decode m_L_law.2.1 1082 = .ok (.invokevirtual 140, 3) := by decide +kernel
theorem d_L_law_1085 : decode m_L_law.2.1 1085 = .ok (.if_icmp .eq 5, 3) := by decide +kernel
theorem d_L_law_1088 : decode m_L_law.2.1 1088 = .ok (.iconst 0, 1) := by decide +kernel
theorem d_L_law_1089 : decode m_L_law.2.1 1089 = .ok (.ireturn, 1) := by decide +kernel
theorem d_L_law_1090 : decode m_L_law.2.1 1090 = .ok (.iinc 3 6, 3) := by decide +kernel
theorem d_L_law_1093 : decode m_L_law.2.1 1093 = .ok (.goto (-1075), 3) := by decide +kernel
theorem d_L_law_1096 : decode m_L_law.2.1 1096 = .ok (.iconst 1, 1) := by decide +kernel
theorem d_L_law_1097 : decode m_L_law.2.1 1097 = .ok (.ireturn, 1) := by decide +kernel
