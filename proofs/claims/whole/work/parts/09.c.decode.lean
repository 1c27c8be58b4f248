theorem d_X5_isVoiceAsRead_0 : decode m_X5_isVoiceAsRead.2.1 0 = .ok (.iconst 0, 1) := by decide +kernel
theorem d_X5_isVoiceAsRead_1 : decode m_X5_isVoiceAsRead.2.1 1 = .ok (.istore_n 3, 1) := by decide +kernel
theorem d_X5_isVoiceAsRead_2 : decode m_X5_isVoiceAsRead.2.1 2 = .ok (.iload_n 3, 1) := by decide +kernel
theorem d_X5_isVoiceAsRead_3 : decode m_X5_isVoiceAsRead.2.1 3 = .ok (.aload_n 0, 1) := by decide +kernel
theorem d_X5_isVoiceAsRead_4 : decode m_X5_isVoiceAsRead.2.1 4 = .ok (.getfield 37, 3) := by decide +kernel
theorem d_X5_isVoiceAsRead_7 : decode m_X5_isVoiceAsRead.2.1 7 = .ok (.if_icmp .ge 31, 3) := by decide +kernel
theorem d_X5_isVoiceAsRead_10 : decode m_X5_isVoiceAsRead.2.1 10 = .ok (.aload_n 0, 1) := by decide +kernel
theorem d_X5_isVoiceAsRead_11 : decode m_X5_isVoiceAsRead.2.1 11 = .ok (.getfield 27, 3) := by decide +kernel
theorem d_X5_isVoiceAsRead_14 : decode m_X5_isVoiceAsRead.2.1 14 = .ok (.iload_n 3, 1) := by decide +kernel
theorem d_X5_isVoiceAsRead_15 : decode m_X5_isVoiceAsRead.2.1 15 = .ok (.iaload, 1) := by decide +kernel
theorem d_X5_isVoiceAsRead_16 : decode m_X5_isVoiceAsRead.2.1 16 = .ok (.iload_n 1, 1) := by decide +kernel
theorem d_X5_isVoiceAsRead_17 : decode m_X5_isVoiceAsRead.2.1 17 = .ok (.if_icmp .ne 15, 3) := by decide +kernel
theorem d_X5_isVoiceAsRead_20 : decode m_X5_isVoiceAsRead.2.1 20 = .ok (.aload_n 0, 1) := by decide +kernel
theorem d_X5_isVoiceAsRead_21 : decode m_X5_isVoiceAsRead.2.1 21 = .ok (.getfield 31, 3) := by decide +kernel
theorem d_X5_isVoiceAsRead_24 : decode m_X5_isVoiceAsRead.2.1 24 = .ok (.iload_n 3, 1) := by decide +kernel
theorem d_X5_isVoiceAsRead_25 : decode m_X5_isVoiceAsRead.2.1 25 = .ok (.iaload, 1) := by decide +kernel
theorem d_X5_isVoiceAsRead_26 : decode m_X5_isVoiceAsRead.2.1 26 = .ok (.iload_n 2, 1) := by decide +kernel
theorem d_X5_isVoiceAsRead_27 : decode m_X5_isVoiceAsRead.2.1 27 = .ok (.if_icmp .eq 5, 3) := by decide +kernel
theorem d_X5_isVoiceAsRead_30 : decode m_X5_isVoiceAsRead.2.1 30 = .ok (.iconst 0, 1) := by decide +kernel
theorem d_X5_isVoiceAsRead_31 : decode m_X5_isVoiceAsRead.2.1 31 = .ok (.ireturn, 1) := by decide +kernel
theorem d_X5_isVoiceAsRead_32 : decode m_X5_isVoiceAsRead.2.1 32 = .ok (.iinc 3 1, 3) := by decide +kernel
theorem d_X5_isVoiceAsRead_35 : decode m_X5_isVoiceAsRead.2.1 35 = .ok (.goto (-33), 3) := by decide +kernel
theorem d_X5_isVoiceAsRead_38 : decode m_X5_isVoiceAsRead.2.1 38 = .ok (.iconst 1, 1) := by decide +kernel
theorem d_X5_isVoiceAsRead_39 : decode m_X5_isVoiceAsRead.2.1 39 = .ok (.ireturn, 1) := by decide +kernel
theorem d_X5_leaveInTrace_0 : decode m_X5_leaveInTrace.2.1 0 = .ok (.aload_n 0, 1) := by decide +kernel
theorem d_X5_leaveInTrace_1 : decode m_X5_leaveInTrace.2.1 1 = .ok (.bipush 31, 2) := by decide +kernel
theorem d_X5_leaveInTrace_3 : decode m_X5_leaveInTrace.2.1 3 = .ok (.aload_n 0, 1) := by decide +kernel
theorem d_X5_leaveInTrace_4 : decode m_X5_leaveInTrace.2.1 4 = .ok (.getfield 44, 3) := by decide +kernel
theorem d_X5_leaveInTrace_7 : decode m_X5_leaveInTrace.2.1 7 = .ok (.imul, 1) := by decide +kernel
theorem d_X5_leaveInTrace_8 : decode m_X5_leaveInTrace.2.1 8 = .ok (.iload_n 1, 1) := by decide +kernel
theorem d_X5_leaveInTrace_9 : decode m_X5_leaveInTrace.2.1 9 = .ok (.iadd, 1) := by decide +kernel
theorem d_X5_leaveInTrace_10 : decode m_X5_leaveInTrace.2.1 10 = .ok (.putfield 44, 3) := by decide +kernel
theorem d_X5_leaveInTrace_13 : decode m_X5_leaveInTrace.2.1 13 = .ok (.return_, 1) := by decide +kernel
theorem d_X5_toldAsPlain_0 : decode m_X5_toldAsPlain.2.1 0 = .ok (.aload_n 0, 1) := by decide +kernel
theorem d_X5_toldAsPlain_1 : decode m_X5_toldAsPlain.2.1 1 = .ok (.iconst 1, 1) := by decide +kernel
theorem d_X5_toldAsPlain_2 : decode m_X5_toldAsPlain.2.1 2 = .ok (.invokevirtual 281, 3) := by decide +kernel
theorem d_X5_toldAsPlain_5 : decode m_X5_toldAsPlain.2.1 5 = .ok (.aload_n 1, 1) := by decide +kernel
theorem d_X5_toldAsPlain_6 : decode m_X5_toldAsPlain.2.1 6 = .ok (.getfield 89, 3) := by decide +kernel
theorem d_X5_toldAsPlain_9 : decode m_X5_toldAsPlain.2.1 9 = .ok (.ireturn, 1) := by decide +kernel
theorem d_X5_toldAsBrooding_0 : decode m_X5_toldAsBrooding.2.1 0 = .ok (.aload_n 0, 1) := by decide +kernel
theorem d_X5_toldAsBrooding_1 : decode m_X5_toldAsBrooding.2.1 1 = .ok (.iconst 2, 1) := by decide +kernel
theorem d_X5_toldAsBrooding_2 : decode m_X5_toldAsBrooding.2.1 2 = .ok (.invokevirtual 281, 3) := by decide +kernel
theorem d_X5_toldAsBrooding_5 : decode m_X5_toldAsBrooding.2.1 5 = .ok (.aload_n 0, 1) := by decide +kernel
theorem d_X5_toldAsBrooding_6 : decode m_X5_toldAsBrooding.2.1 6 = .ok (.aload_n 1, 1) := by decide +kernel
theorem d_X5_toldAsBrooding_7 : decode m_X5_toldAsBrooding.2.1 7 = .ok (.invokevirtual 235, 3) := by decide +kernel
theorem d_X5_toldAsBrooding_10 : decode m_X5_toldAsBrooding.2.1 10 = .ok (.bipush 100, 2) := by decide +kernel
theorem d_X5_toldAsBrooding_12 : decode m_X5_toldAsBrooding.2.1 12 = .ok (.iadd, 1) := by decide +kernel
theorem d_X5_toldAsBrooding_13 : decode m_X5_toldAsBrooding.2.1 13 = .ok (.ireturn, 1) := by decide +kernel
theorem d_X5_toldAsDouble_0 : decode m_X5_toldAsDouble.2.1 0 = .ok (.aload_n 0, 1) := by decide +kernel
theorem d_X5_toldAsDouble_1 : decode m_X5_toldAsDouble.2.1 1 = .ok (.iconst 3, 1) := by decide +kernel
theorem d_X5_toldAsDouble_2 : decode m_X5_toldAsDouble.2.1 2 = .ok (.invokevirtual 281, 3) := by decide +kernel
theorem d_X5_toldAsDouble_5 : decode m_X5_toldAsDouble.2.1 5 = .ok (.aload_n 0, 1) := by decide +kernel
theorem d_X5_toldAsDouble_6 : decode m_X5_toldAsDouble.2.1 6 = .ok (.aload_n 1, 1) := by decide +kernel
theorem d_X5_toldAsDouble_7 : decode m_X5_toldAsDouble.2.1 7 = .ok (.invokevirtual 232, 3) := by decide +kernel
theorem d_X5_toldAsDouble_10 : decode m_X5_toldAsDouble.2.1 10 = .ok (.istore_n 2, 1) := by decide +kernel
theorem d_X5_toldAsDouble_11 : decode m_X5_toldAsDouble.2.1 11 = .ok (.iload_n 2, 1) := by decide +kernel
theorem d_X5_toldAsDouble_12 : decode m_X5_toldAsDouble.2.1 12 = .ok (.aload_n 0, 1) := by decide +kernel
theorem d_X5_toldAsDouble_13 : decode m_X5_toldAsDouble.2.1 13 = .ok (.aload_n 1, 1) := by decide +kernel
theorem d_X5_toldAsDouble_14 : decode m_X5_toldAsDouble.2.1 14 = .ok (.invokevirtual 235, 3) := by decide +kernel
theorem d_X5_toldAsDouble_17 : decode m_X5_toldAsDouble.2.1 17 = .ok (.iadd, 1) := by decide +kernel
theorem d_X5_toldAsDouble_18 : decode m_X5_toldAsDouble.2.1 18 = .ok (.ireturn, 1) := by decide +kernel
theorem d_X5_knockedAsLent_0 : decode m_X5_knockedAsLent.2.1 0 = .ok (.aload_n 0, 1) := by decide +kernel
theorem d_X5_knockedAsLent_1 : decode m_X5_knockedAsLent.2.1 1 = .ok (.iconst 4, 1) := by decide +kernel
theorem d_X5_knockedAsLent_2 : decode m_X5_knockedAsLent.2.1 2 = .ok (.invokevirtual 281, 3) := by decide +kernel
theorem d_X5_knockedAsLent_5 : decode m_X5_knockedAsLent.2.1 5 = .ok (.aload_n 1, 1) := by decide +kernel
theorem d_X5_knockedAsLent_6 : decode m_X5_knockedAsLent.2.1 6 = .ok (.getfield 92, 3) := by decide +kernel
theorem d_X5_knockedAsLent_9 : decode m_X5_knockedAsLent.2.1 9 = .ok (.ireturn, 1) := by decide +kernel
theorem d_X5_knockedAsDouble_0 : decode m_X5_knockedAsDouble.2.1 0 = .ok (.aload_n 0, 1) := by decide +kernel
theorem d_X5_knockedAsDouble_1 : decode m_X5_knockedAsDouble.2.1 1 = .ok (.iconst 5, 1) := by decide +kernel
theorem d_X5_knockedAsDouble_2 : decode m_X5_knockedAsDouble.2.1 2 = .ok (.invokevirtual 281, 3) := by decide +kernel
theorem d_X5_knockedAsDouble_5 : decode m_X5_knockedAsDouble.2.1 5 = .ok (.bipush 70, 2) := by decide +kernel
theorem d_X5_knockedAsDouble_7 : decode m_X5_knockedAsDouble.2.1 7 = .ok (.ireturn, 1) := by decide +kernel
theorem d_X6_init_0 : decode m_X6_init.2.1 0 = .ok (.aload_n 0, 1) := by decide +kernel
theorem d_X6_init_1 : decode m_X6_init.2.1 1 = .ok (.invokespecial 1, 3) := by decide +kernel
theorem d_X6_init_4 : decode m_X6_init.2.1 4 = .ok (.aload_n 0, 1) := by decide +kernel
theorem d_X6_init_5 : decode m_X6_init.2.1 5 = .ok (.iconst 4, 1) := by decide +kernel
theorem d_X6_init_6 : decode m_X6_init.2.1 6 = .ok (.newarray .int, 2) := by decide +kernel
theorem d_X6_init_8 : decode m_X6_init.2.1 8 = .ok (.dup, 1) := by decide +kernel
theorem d_X6_init_9 : decode m_X6_init.2.1 9 = .ok (.iconst 0, 1) := by decide +kernel
theorem d_X6_init_10 : decode m_X6_init.2.1 10 = .ok (.bipush (-9), 2) := by decide +kernel
theorem d_X6_init_12 : decode m_X6_init.2.1 12 = .ok (.iastore, 1) := by decide +kernel
theorem d_X6_init_13 : decode m_X6_init.2.1 13 = .ok (.dup, 1) := by decide +kernel
theorem d_X6_init_14 : decode m_X6_init.2.1 14 = .ok (.iconst 1, 1) := by decide +kernel
theorem d_X6_init_15 : decode m_X6_init.2.1 15 = .ok (.bipush (-9), 2) := by decide +kernel
theorem d_X6_init_17 : decode m_X6_init.2.1 17 = .ok (.iastore, 1) := by decide +kernel
theorem d_X6_init_18 : decode m_X6_init.2.1 18 = .ok (.dup, 1) := by decide +kernel
theorem d_X6_init_19 : decode m_X6_init.2.1 19 = .ok (.iconst 2, 1) := by decide +kernel
theorem d_X6_init_20 : decode m_X6_init.2.1 20 = .ok (.bipush (-9), 2) := by decide +kernel
theorem d_X6_init_22 : decode m_X6_init.2.1 22 = .ok (.iastore, 1) := by decide +kernel
theorem d_X6_init_23 : decode m_X6_init.2.1 23 = .ok (.dup, 1) := by decide +kernel
theorem d_X6_init_24 : decode m_X6_init.2.1 24 = .ok (.iconst 3, 1) := by decide +kernel
theorem d_X6_init_25 : decode m_X6_init.2.1 25 = .ok (.bipush (-9), 2) := by decide +kernel
theorem d_X6_init_27 : decode m_X6_init.2.1 27 = .ok (.iastore, 1) := by decide +kernel
theorem d_X6_init_28 : decode m_X6_init.2.1 28 = .ok (.putfield 9, 3) := by decide +kernel
theorem d_X6_init_31 : decode m_X6_init.2.1 31 = .ok (.aload_n 0, 1) := by decide +kernel
theorem d_X6_init_32 : decode m_X6_init.2.1 32 = .ok (.iconst 4, 1) := by decide +kernel
theorem d_X6_init_33 : decode m_X6_init.2.1 33 = .ok (.newarray .int, 2) := by decide +kernel
theorem d_X6_init_35 : decode m_X6_init.2.1 35 = .ok (.putfield 13, 3) := by decide +kernel
theorem d_X6_init_38 : decode m_X6_init.2.1 38 = .ok (.aload_n 0, 1) := by decide +kernel
theorem d_X6_init_39 : decode m_X6_init.2.1 39 = .ok (.sipush 240, 3) := by decide +kernel
theorem d_X6_init_42 : decode m_X6_init.2.1 42 = .ok (.newarray .int, 2) := by decide +kernel
theorem d_X6_init_44 : decode m_X6_init.2.1 44 = .ok (.putfield 16, 3) := by decide +kernel
theorem d_X6_init_47 : decode m_X6_init.2.1 47 = .ok (.aload_n 0, 1) := by decide +kernel
theorem d_X6_init_48 : decode m_X6_init.2.1 48 = .ok (.iconst 5, 1) := by decide +kernel
theorem d_X6_init_49 : decode m_X6_init.2.1 49 = .ok (.newarray .int, 2) := by decide +kernel
theorem d_X6_init_51 : decode m_X6_init.2.1 51 = .ok (.putfield 19, 3) := by decide +kernel
theorem d_X6_init_54 : decode m_X6_init.2.1 54 = .ok (.aload_n 0, 1) := by decide +kernel
theorem d_X6_init_55 : decode m_X6_init.2.1 55 = .ok (.iconst 5, 1) := by decide +kernel
theorem d_X6_init_56 : decode m_X6_init.2.1 56 = .ok (.newarray .int, 2) := by decide +kernel
theorem d_X6_init_58 : decode m_X6_init.2.1 58 = .ok (.putfield 22, 3) := by decide +kernel
theorem d_X6_init_61 : decode m_X6_init.2.1 61 = .ok (.aload_n 0, 1) := by decide +kernel
theorem d_X6_init_62 : decode m_X6_init.2.1 62 = .ok (.iconst 5, 1) := by decide +kernel
theorem d_X6_init_63 : decode m_X6_init.2.1 63 = .ok (.newarray .int, 2) := by decide +kernel
theorem d_X6_init_65 : decode m_X6_init.2.1 65 = .ok (.putfield 25, 3) := by decide +kernel
theorem d_X6_init_68 : decode m_X6_init.2.1 68 = .ok (.aload_n 0, 1) := by decide +kernel
theorem d_X6_init_69 : decode m_X6_init.2.1 69 = .ok (.iconst 5, 1) := by decide +kernel
theorem d_X6_init_70 : decode m_X6_init.2.1 70 = .ok (.newarray .int, 2) := by decide +kernel
theorem d_X6_init_72 : decode m_X6_init.2.1 72 = .ok (.putfield 28, 3) := by decide +kernel
theorem d_X6_init_75 : decode m_X6_init.2.1 75 = .ok (.aload_n 0, 1) := by decide +kernel
theorem d_X6_init_76 : decode m_X6_init.2.1 76 = .ok (.iconst 4, 1) := by decide +kernel
theorem d_X6_init_77 : decode m_X6_init.2.1 77 = .ok (.newarray .int, 2) := by decide +kernel
theorem d_X6_init_79 : decode m_X6_init.2.1 79 = .ok (.putfield 31, 3) := by decide +kernel
theorem d_X6_init_82 : decode m_X6_init.2.1 82 = .ok (.aload_n 0, 1) := by decide +kernel
theorem d_X6_init_83 : decode m_X6_init.2.1 83 = .ok (.bipush 15, 2) := by decide +kernel
theorem d_X6_init_85 : decode m_X6_init.2.1 85 = .ok (.newarray .int, 2) := by decide +kernel
theorem d_X6_init_87 : decode m_X6_init.2.1 87 = .ok (.putfield 34, 3) := by decide +kernel
theorem d_X6_init_90 : decode m_X6_init.2.1 90 = .ok (.aload_n 0, 1) := by decide +kernel
theorem d_X6_init_91 : decode m_X6_init.2.1 91 = .ok (.iconst 4, 1) := by decide +kernel
theorem d_X6_init_92 : decode m_X6_init.2.1 92 = .ok (.newarray .int, 2) := by decide +kernel
theorem d_X6_init_94 : decode m_X6_init.2.1 94 = .ok (.putfield 37, 3) := by decide +kernel
theorem d_X6_init_97 : decode m_X6_init.2.1 97 = .ok (.aload_n 0, 1) := by decide +kernel
theorem d_X6_init_98 : decode m_X6_init.2.1 98 = .ok (.bipush 30, 2) := by decide +kernel
theorem d_X6_init_100 : decode m_X6_init.2.1 100 = .ok (.newarray .int, 2) := by decide +kernel
theorem d_X6_init_102 : decode m_X6_init.2.1 102 = .ok (.putfield 40, 3) := by decide +kernel
theorem d_X6_init_105 : decode m_X6_init.2.1 105 = .ok (.aload_n 0, 1) := by decide +kernel
theorem d_X6_init_106 : decode m_X6_init.2.1 106 = .ok (.bipush 8, 2) := by decide +kernel
theorem d_X6_init_108 : decode m_X6_init.2.1 108 = .ok (.newarray .int, 2) := by decide +kernel
theorem d_X6_init_110 : decode m_X6_init.2.1 110 = .ok (.putfield 43, 3) := by decide +kernel
theorem d_X6_init_113 : decode m_X6_init.2.1 113 = .ok (.aload_n 0, 1) := by decide +kernel
theorem d_X6_init_114 : decode m_X6_init.2.1 114 = .ok (.bipush 8, 2) := by decide +kernel
theorem d_X6_init_116 : decode m_X6_init.2.1 116 = .ok (.newarray .int, 2) := by decide +kernel
theorem d_X6_init_118 : decode m_X6_init.2.1 118 = .ok (.putfield 46, 3) := by decide +kernel
theorem d_X6_init_121 : decode m_X6_init.2.1 121 = .ok (.aload_n 0, 1) := by decide +kernel
theorem d_X6_init_122 : decode m_X6_init.2.1 122 = .ok (.bipush 8, 2) := by decide +kernel
theorem d_X6_init_124 : decode m_X6_init.2.1 124 = .ok (.newarray .int, 2) := by decide +kernel
theorem d_X6_init_126 : decode m_X6_init.2.1 126 = .ok (.putfield 49, 3) := by decide +kernel
theorem d_X6_init_129 : decode m_X6_init.2.1 129 = .ok (.return_, 1) := by decide +kernel
theorem d_X6_fails_0 : decode m_X6_fails.2.1 0 = .ok (.aload_n 0, 1) := by decide +kernel
theorem d_X6_fails_1 : decode m_X6_fails.2.1 1 = .ok (.iload_n 1, 1) := by decide +kernel
theorem d_X6_fails_2 : decode m_X6_fails.2.1 2 = .ok (.putfield 52, 3) := by decide +kernel
theorem d_X6_fails_5 : decode m_X6_fails.2.1 5 = .ok (.bipush (-10), 2) := by decide +kernel
theorem d_X6_fails_7 : decode m_X6_fails.2.1 7 = .ok (.iload_n 1, 1) := by decide +kernel
theorem d_X6_fails_8 : decode m_X6_fails.2.1 8 = .ok (.isub, 1) := by decide +kernel
theorem d_X6_fails_9 : decode m_X6_fails.2.1 9 = .ok (.ireturn, 1) := by decide +kernel
theorem d_X6_lost_0 : decode m_X6_lost.2.1 0 = .ok (.aload_n 0, 1) := by decide +kernel
theorem d_X6_lost_1 : decode m_X6_lost.2.1 1 = .ok (.iload_n 1, 1) := by decide +kernel
theorem d_X6_lost_2 : decode m_X6_lost.2.1 2 = .ok (.putfield 52, 3) := by decide +kernel
theorem d_X6_lost_5 : decode m_X6_lost.2.1 5 = .ok (.ldc2_w 56, 3) := by decide +kernel
theorem d_X6_lost_8 : decode m_X6_lost.2.1 8 = .ok (.lreturn, 1) := by decide +kernel
theorem d_X6_within_0 : decode m_X6_within.2.1 0 = .ok (.iload_n 0, 1) := by decide +kernel
theorem d_X6_within_1 : decode m_X6_within.2.1 1 = .ok (.iload_n 1, 1) := by decide +kernel
theorem d_X6_within_2 : decode m_X6_within.2.1 2 = .ok (.if_icmp .lt 12, 3) := by decide +kernel
theorem d_X6_within_5 : decode m_X6_within.2.1 5 = .ok (.iload_n 0, 1) := by decide +kernel
theorem d_X6_within_6 : decode m_X6_within.2.1 6 = .ok (.iload_n 2, 1) := by decide +kernel
theorem d_X6_within_7 : decode m_X6_within.2.1 7 = .ok (.if_icmp .gt 7, 3) := by decide +kernel
theorem d_X6_within_10 : decode m_X6_within.2.1 10 = .ok (.iconst 1, 1) := by decide +kernel
theorem d_X6_within_11 : decode m_X6_within.2.1 11 = .ok (.goto 4, 3) := by decide +kernel
theorem d_X6_within_14 : decode m_X6_within.2.1 14 = .ok (.iconst 0, 1) := by decide +kernel
theorem d_X6_within_15 : decode m_X6_within.2.1 15 = .ok (.ireturn, 1) := by decide +kernel
theorem d_X6_isSheet_0 : decode m_X6_isSheet.2.1 0 = .ok (.iload_n 0, 1) := by decide +kernel
theorem d_X6_isSheet_1 : decode m_X6_isSheet.2.1 1 = .ok (.iconst 0, 1) := by decide +kernel
theorem d_X6_isSheet_2 : decode m_X6_isSheet.2.1 2 = .ok (.iconst 3, 1) := by decide +kernel
theorem d_X6_isSheet_3 : decode m_X6_isSheet.2.1 3 = .ok (.invokestatic 58, 3) := by decide +kernel
theorem d_X6_isSheet_6 : decode m_X6_isSheet.2.1 6 = .ok (.ireturn, 1) := by decide +kernel
theorem d_X6_isSort_0 : decode m_X6_isSort.2.1 0 = .ok (.iload_n 0, 1) := by decide +kernel
theorem d_X6_isSort_1 : decode m_X6_isSort.2.1 1 = .ok (.iconst 0, 1) := by decide +kernel
theorem d_X6_isSort_2 : decode m_X6_isSort.2.1 2 = .ok (.iconst 2, 1) := by decide +kernel
theorem d_X6_isSort_3 : decode m_X6_isSort.2.1 3 = .ok (.invokestatic 58, 3) := by decide +kernel
theorem d_X6_isSort_6 : decode m_X6_isSort.2.1 6 = .ok (.ireturn, 1) := by decide +kernel
theorem d_X6_against_0 : decode m_X6_against.2.1 0 = .ok (.aload_n 0, 1) := by decide +kernel
theorem d_X6_against_1 : decode m_X6_against.2.1 1 = .ok (.getfield 9, 3) := by decide +kernel
theorem d_X6_against_4 : decode m_X6_against.2.1 4 = .ok (.iload_n 1, 1) := by decide +kernel
theorem d_X6_against_5 : decode m_X6_against.2.1 5 = .ok (.iaload, 1) := by decide +kernel
theorem d_X6_against_6 : decode m_X6_against.2.1 6 = .ok (.bipush (-9), 2) := by decide +kernel
theorem d_X6_against_8 : decode m_X6_against.2.1 8 = .ok (.if_icmp .eq 15, 3) := by decide +kernel
theorem d_X6_against_11 : decode m_X6_against.2.1 11 = .ok (.aload_n 0, 1) := by decide +kernel
theorem d_X6_against_12 : decode m_X6_against.2.1 12 = .ok (.getfield 9, 3) := by decide +kernel
theorem d_X6_against_15 : decode m_X6_against.2.1 15 = .ok (.iload_n 1, 1) := by decide +kernel
theorem d_X6_against_16 : decode m_X6_against.2.1 16 = .ok (.iaload, 1) := by decide +kernel
theorem d_X6_against_17 : decode m_X6_against.2.1 17 = .ok (.iload_n 2, 1) := by decide +kernel
theorem d_X6_against_18 : decode m_X6_against.2.1 18 = .ok (.if_icmp .eq 5, 3) := by decide +kernel
theorem d_X6_against_21 : decode m_X6_against.2.1 21 = .ok (.iconst 2, 1) := by decide +kernel
theorem d_X6_against_22 : decode m_X6_against.2.1 22 = .ok (.ireturn, 1) := by decide +kernel
theorem d_X6_against_23 : decode m_X6_against.2.1 23 = .ok (.aload_n 0, 1) := by decide +kernel
theorem d_X6_against_24 : decode m_X6_against.2.1 24 = .ok (.getfield 9, 3) := by decide +kernel
theorem d_X6_against_27 : decode m_X6_against.2.1 27 = .ok (.iload_n 1, 1) := by decide +kernel
theorem d_X6_against_28 : decode m_X6_against.2.1 28 = .ok (.iaload, 1) := by decide +kernel
theorem d_X6_against_29 : decode m_X6_against.2.1 29 = .ok (.bipush (-9), 2) := by decide +kernel
theorem d_X6_against_31 : decode m_X6_against.2.1 31 = .ok (.if_icmp .ne 5, 3) := by decide +kernel
theorem d_X6_against_34 : decode m_X6_against.2.1 34 = .ok (.iconst 1, 1) := by decide +kernel
theorem d_X6_against_35 : decode m_X6_against.2.1 35 = .ok (.ireturn, 1) := by decide +kernel
theorem d_X6_against_36 : decode m_X6_against.2.1 36 = .ok (.iload 4, 2) := by decide +kernel
theorem d_X6_against_38 : decode m_X6_against.2.1 38 = .ok (.ifCond .ge 5, 3) := by decide +kernel
theorem d_X6_against_41 : decode m_X6_against.2.1 41 = .ok (.iconst 4, 1) := by decide +kernel
theorem d_X6_against_42 : decode m_X6_against.2.1 42 = .ok (.ireturn, 1) := by decide +kernel
theorem d_X6_against_43 : decode m_X6_against.2.1 43 = .ok (.iload_n 3, 1) := by decide +kernel
theorem d_X6_against_44 : decode m_X6_against.2.1 44 = .ok (.ifCond .lt 26, 3) := by decide +kernel
theorem d_X6_against_47 : decode m_X6_against.2.1 47 = .ok (.iload_n 3, 1) := by decide +kernel
theorem d_X6_against_48 : decode m_X6_against.2.1 48 = .ok (.aload_n 0, 1) := by decide +kernel
theorem d_X6_against_49 : decode m_X6_against.2.1 49 = .ok (.getfield 13, 3) := by decide +kernel
theorem d_X6_against_52 : decode m_X6_against.2.1 52 = .ok (.iload_n 1, 1) := by decide +kernel
theorem d_X6_against_53 : decode m_X6_against.2.1 53 = .ok (.iaload, 1) := by decide +kernel
theorem d_X6_against_54 : decode m_X6_against.2.1 54 = .ok (.if_icmp .gt 16, 3) := by decide +kernel
theorem d_X6_against_57 : decode m_X6_against.2.1 57 = .ok (.iload 4, 2) := by decide +kernel
theorem d_X6_against_59 : decode m_X6_against.2.1 59 = .ok (.aload_n 0, 1) := by decide +kernel
theorem d_X6_against_60 : decode m_X6_against.2.1 60 = .ok (.getfield 13, 3) := by decide +kernel
theorem d_X6_against_63 : decode m_X6_against.2.1 63 = .ok (.iload_n 1, 1) := by decide +kernel
theorem d_X6_against_64 : decode m_X6_against.2.1 64 = .ok (.iaload, 1) := by decide +kernel
theorem d_X6_against_65 : decode m_X6_against.2.1 65 = .ok (.iload_n 3, 1) := by decide +kernel
theorem d_X6_against_66 : decode m_X6_against.2.1 66 = .ok (.isub, 1) := by decide +kernel
theorem d_X6_against_67 : decode m_X6_against.2.1 67 = .ok (.if_icmp .le 7, 3) := by decide +kernel
theorem d_X6_against_70 : decode m_X6_against.2.1 70 = .ok (.iconst 3, 1) := by decide +kernel
theorem d_X6_against_71 : decode m_X6_against.2.1 71 = .ok (.goto 4, 3) := by decide +kernel
theorem d_X6_against_74 : decode m_X6_against.2.1 74 = .ok (.iconst 0, 1) := by decide +kernel
theorem d_X6_against_75 : decode m_X6_against.2.1 75 = .ok (.ireturn, 1) := by decide +kernel
theorem d_X6_isHouse_0 : decode m_X6_isHouse.2.1 0 = .ok (.iload_n 1, 1) := by decide +kernel
theorem d_X6_isHouse_1 : decode m_X6_isHouse.2.1 1 = .ok (.ifCond .lt 15, 3) := by decide +kernel
theorem d_X6_isHouse_4 : decode m_X6_isHouse.2.1 4 = .ok (.iload_n 1, 1) := by decide +kernel
theorem d_X6_isHouse_5 : decode m_X6_isHouse.2.1 5 = .ok (.aload_n 0, 1) := by decide +kernel
theorem d_X6_isHouse_6 : decode m_X6_isHouse.2.1 6 = .ok (.getfield 62, 3) := by decide +kernel
theorem d_X6_isHouse_9 : decode m_X6_isHouse.2.1 9 = .ok (.if_icmp .ge 7, 3) := by decide +kernel
theorem d_X6_isHouse_12 : decode m_X6_isHouse.2.1 12 = .ok (.iconst 1, 1) := by decide +kernel
theorem d_X6_isHouse_13 : decode m_X6_isHouse.2.1 13 = .ok (.goto 4, 3) := by decide +kernel
theorem d_X6_isHouse_16 : decode m_X6_isHouse.2.1 16 = .ok (.iconst 0, 1) := by decide +kernel
theorem d_X6_isHouse_17 : decode m_X6_isHouse.2.1 17 = .ok (.ireturn, 1) := by decide +kernel
theorem d_X6_isStone_0 : decode m_X6_isStone.2.1 0 = .ok (.iload_n 1, 1) := by decide +kernel
theorem d_X6_isStone_1 : decode m_X6_isStone.2.1 1 = .ok (.ifCond .lt 15, 3) := by decide +kernel
theorem d_X6_isStone_4 : decode m_X6_isStone.2.1 4 = .ok (.iload_n 1, 1) := by decide +kernel
theorem d_X6_isStone_5 : decode m_X6_isStone.2.1 5 = .ok (.aload_n 0, 1) := by decide +kernel
theorem d_X6_isStone_6 : decode m_X6_isStone.2.1 6 = .ok (.getfield 65, 3) := by decide +kernel
theorem d_X6_isStone_9 : decode m_X6_isStone.2.1 9 = .ok (.if_icmp .ge 7, 3) := by decide +kernel
theorem d_X6_isStone_12 : decode m_X6_isStone.2.1 12 = .ok (.iconst 1, 1) := by decide +kernel
theorem d_X6_isStone_13 : decode m_X6_isStone.2.1 13 = .ok (.goto 4, 3) := by decide +kernel
theorem d_X6_isStone_16 : decode m_X6_isStone.2.1 16 = .ok (.iconst 0, 1) := by decide +kernel
theorem d_X6_isStone_17 : decode m_X6_isStone.2.1 17 = .ok (.ireturn, 1) := by decide +kernel
theorem d_X6_isOf_0 : decode m_X6_isOf.2.1 0 = .ok (.iload_n 0, 1) := by decide +kernel
theorem d_X6_isOf_1 : decode m_X6_isOf.2.1 1 = .ok (.iload_n 1, 1) := by decide +kernel
theorem d_X6_isOf_2 : decode m_X6_isOf.2.1 2 = .ok (.ishr, 1) := by decide +kernel
theorem d_X6_isOf_3 : decode m_X6_isOf.2.1 3 = .ok (.iconst 1, 1) := by decide +kernel
theorem d_X6_isOf_4 : decode m_X6_isOf.2.1 4 = .ok (.iand, 1) := by decide +kernel
theorem d_X6_isOf_5 : decode m_X6_isOf.2.1 5 = .ok (.iconst 1, 1) := by decide +kernel
theorem d_X6_isOf_6 : decode m_X6_isOf.2.1 6 = .ok (.if_icmp .ne 7, 3) := by decide +kernel
theorem d_X6_isOf_9 : decode m_X6_isOf.2.1 9 = .ok (.iconst 1, 1) := by decide +kernel
theorem d_X6_isOf_10 : decode m_X6_isOf.2.1 10 = .ok (.goto 4, 3) := by decide +kernel
theorem d_X6_isOf_13 : decode m_X6_isOf.2.1 13 = .ok (.iconst 0, 1) := by decide +kernel
theorem d_X6_isOf_14 : decode m_X6_isOf.2.1 14 = .ok (.ireturn, 1) := by decide +kernel
theorem d_X6_size_0 : decode m_X6_size.2.1 0 = .ok (.iconst 0, 1) := by decide +kernel
theorem d_X6_size_1 : decode m_X6_size.2.1 1 = .ok (.istore_n 1, 1) := by decide +kernel
theorem d_X6_size_2 : decode m_X6_size.2.1 2 = .ok (.iload_n 0, 1) := by decide +kernel
theorem d_X6_size_3 : decode m_X6_size.2.1 3 = .ok (.istore_n 2, 1) := by decide +kernel
theorem d_X6_size_4 : decode m_X6_size.2.1 4 = .ok (.iload_n 2, 1) := by decide +kernel
theorem d_X6_size_5 : decode m_X6_size.2.1 5 = .ok (.ifCond .le 16, 3) := by decide +kernel
theorem d_X6_size_8 : decode m_X6_size.2.1 8 = .ok (.iload_n 1, 1) := by decide +kernel
theorem d_X6_size_9 : decode m_X6_size.2.1 9 = .ok (.iload_n 2, 1) := by decide +kernel
theorem d_X6_size_10 : decode m_X6_size.2.1 10 = .ok (.iconst 1, 1) := by decide +kernel
theorem d_X6_size_11 : decode m_X6_size.2.1 11 = .ok (.iand, 1) := by decide +kernel
theorem d_X6_size_12 : decode m_X6_size.2.1 12 = .ok (.iadd, 1) := by decide +kernel
theorem d_X6_size_13 : decode m_X6_size.2.1 13 = .ok (.istore_n 1, 1) := by decide +kernel
theorem d_X6_size_14 : decode m_X6_size.2.1 14 = .ok (.iload_n 2, 1) := by decide +kernel
theorem d_X6_size_15 : decode m_X6_size.2.1 15 = .ok (.iconst 1, 1) := by decide +kernel
theorem d_X6_size_16 : decode m_X6_size.2.1 16 = .ok (.ishr, 1) := by decide +kernel
theorem d_X6_size_17 : decode m_X6_size.2.1 17 = .ok (.istore_n 2, 1) := by decide +kernel
theorem d_X6_size_18 : decode m_X6_size.2.1 18 = .ok (.goto (-14), 3) := by decide +kernel
theorem d_X6_size_21 : decode m_X6_size.2.1 21 = .ok (.iload_n 1, 1) := by decide +kernel
theorem d_X6_size_22 : decode m_X6_size.2.1 22 = .ok (.ireturn, 1) := by decide +kernel
theorem d_X6_digit_0 : decode m_X6_digit.2.1 0 = .ok (.aload_n 0, 1) := by decide +kernel
theorem d_X6_digit_1 : decode m_X6_digit.2.1 1 = .ok (.getfield 68, 3) := by decide +kernel
theorem d_X6_digit_4 : decode m_X6_digit.2.1 4 = .ok (.iload_n 1, 1) := by decide +kernel
theorem d_X6_digit_5 : decode m_X6_digit.2.1 5 = .ok (.if_icmp .ge 26, 3) := by decide +kernel
theorem d_X6_digit_8 : decode m_X6_digit.2.1 8 = .ok (.aload_n 0, 1) := by decide +kernel
theorem d_X6_digit_9 : decode m_X6_digit.2.1 9 = .ok (.getfield 16, 3) := by decide +kernel
theorem d_X6_digit_12 : decode m_X6_digit.2.1 12 = .ok (.aload_n 0, 1) := by decide +kernel
theorem d_X6_digit_13 : decode m_X6_digit.2.1 13 = .ok (.getfield 68, 3) := by decide +kernel
theorem d_X6_digit_16 : decode m_X6_digit.2.1 16 = .ok (.iaload, 1) := by decide +kernel
theorem d_X6_digit_17 : decode m_X6_digit.2.1 17 = .ok (.bipush 48, 2) := by decide +kernel
theorem d_X6_digit_19 : decode m_X6_digit.2.1 19 = .ok (.iload_n 2, 1) := by decide +kernel
theorem d_X6_digit_20 : decode m_X6_digit.2.1 20 = .ok (.iadd, 1) := by decide +kernel
theorem d_X6_digit_21 : decode m_X6_digit.2.1 21 = .ok (.bipush 48, 2) := by decide +kernel
theorem d_X6_digit_23 : decode m_X6_digit.2.1 23 = .ok (.iload_n 3, 1) := by decide +kernel
theorem d_X6_digit_24 : decode m_X6_digit.2.1 24 = .ok (.iadd, 1) := by decide +kernel
theorem d_X6_digit_25 : decode m_X6_digit.2.1 25 = .ok (.invokestatic 58, 3) := by decide +kernel
theorem d_X6_digit_28 : decode m_X6_digit.2.1 28 = .ok (.ifCond .ne 6, 3) := by decide +kernel
theorem d_X6_digit_31 : decode m_X6_digit.2.1 31 = .ok (.bipush (-9), 2) := by decide +kernel
theorem d_X6_digit_33 : decode m_X6_digit.2.1 33 = .ok (.ireturn, 1) := by decide +kernel
theorem d_X6_digit_34 : decode m_X6_digit.2.1 34 = .ok (.aload_n 0, 1) := by decide +kernel
theorem d_X6_digit_35 : decode m_X6_digit.2.1 35 = .ok (.dup, 1) := by decide +kernel
theorem d_X6_digit_36 : decode m_X6_digit.2.1 36 = .ok (.getfield 68, 3) := by decide +kernel
theorem d_X6_digit_39 : decode m_X6_digit.2.1 39 = .ok (.iconst 1, 1) := by decide +kernel
theorem d_X6_digit_40 : decode m_X6_digit.2.1 40 = .ok (.iadd, 1) := by decide +kernel
theorem d_X6_digit_41 : decode m_X6_digit.2.1 41 = .ok (.putfield 68, 3) := by decide +kernel
theorem d_X6_digit_44 : decode m_X6_digit.2.1 44 = .ok (.aload_n 0, 1) := by decide +kernel
theorem d_X6_digit_45 : decode m_X6_digit.2.1 45 = .ok (.getfield 16, 3) := by decide +kernel
theorem d_X6_digit_48 : decode m_X6_digit.2.1 48 = .ok (.aload_n 0, 1) := by decide +kernel
theorem d_X6_digit_49 : decode m_X6_digit.2.1 49 = .ok (.getfield 68, 3) := by decide +kernel
theorem d_X6_digit_52 : decode m_X6_digit.2.1 52 = .ok (.iconst 1, 1) := by decide +kernel
theorem d_X6_digit_53 : decode m_X6_digit.2.1 53 = .ok (.isub, 1) := by decide +kernel
theorem d_X6_digit_54 : decode m_X6_digit.2.1 54 = .ok (.iaload, 1) := by decide +kernel
theorem d_X6_digit_55 : decode m_X6_digit.2.1 55 = .ok (.bipush 48, 2) := by decide +kernel
theorem d_X6_digit_57 : decode m_X6_digit.2.1 57 = .ok (.isub, 1) := by decide +kernel
theorem d_X6_digit_58 : decode m_X6_digit.2.1 58 = .ok (.ireturn, 1) := by decide +kernel
theorem d_X6_isSign_0 : decode m_X6_isSign.2.1 0 = .ok (.aload_n 0, 1) := by decide +kernel
theorem d_X6_isSign_1 : decode m_X6_isSign.2.1 1 = .ok (.getfield 68, 3) := by decide +kernel
theorem d_X6_isSign_4 : decode m_X6_isSign.2.1 4 = .ok (.iload_n 1, 1) := by decide +kernel
theorem d_X6_isSign_5 : decode m_X6_isSign.2.1 5 = .ok (.if_icmp .ge 16, 3) := by decide +kernel
theorem d_X6_isSign_8 : decode m_X6_isSign.2.1 8 = .ok (.aload_n 0, 1) := by decide +kernel
theorem d_X6_isSign_9 : decode m_X6_isSign.2.1 9 = .ok (.getfield 16, 3) := by decide +kernel
theorem d_X6_isSign_12 : decode m_X6_isSign.2.1 12 = .ok (.aload_n 0, 1) := by decide +kernel
theorem d_X6_isSign_13 : decode m_X6_isSign.2.1 13 = .ok (.getfield 68, 3) := by decide +kernel
theorem d_X6_isSign_16 : decode m_X6_isSign.2.1 16 = .ok (.iaload, 1) := by decide +kernel
theorem d_X6_isSign_17 : decode m_X6_isSign.2.1 17 = .ok (.iload_n 2, 1) := by decide +kernel
theorem d_X6_isSign_18 : decode m_X6_isSign.2.1 18 = .ok (.if_icmp .eq 5, 3) := by decide +kernel
theorem d_X6_isSign_21 : decode m_X6_isSign.2.1 21 = .ok (.iconst 0, 1) := by decide +kernel
theorem d_X6_isSign_22 : decode m_X6_isSign.2.1 22 = .ok (.ireturn, 1) := by decide +kernel
theorem d_X6_isSign_23 : decode m_X6_isSign.2.1 23 = .ok (.aload_n 0, 1) := by decide +kernel
theorem d_X6_isSign_24 : decode m_X6_isSign.2.1 24 = .ok (.dup, 1) := by decide +kernel
theorem d_X6_isSign_25 : decode m_X6_isSign.2.1 25 = .ok (.getfield 68, 3) := by decide +kernel
theorem d_X6_isSign_28 : decode m_X6_isSign.2.1 28 = .ok (.iconst 1, 1) := by decide +kernel
theorem d_X6_isSign_29 : decode m_X6_isSign.2.1 29 = .ok (.iadd, 1) := by decide +kernel
theorem d_X6_isSign_30 : decode m_X6_isSign.2.1 30 = .ok (.putfield 68, 3) := by decide +kernel
theorem d_X6_isSign_33 : decode m_X6_isSign.2.1 33 = .ok (.iconst 1, 1) := by decide +kernel
theorem d_X6_isSign_34 : decode m_X6_isSign.2.1 34 = .ok (.ireturn, 1) := by decide +kernel
theorem d_X6_parish_0 : decode m_X6_parish.2.1 0 = .ok (.aload_n 0, 1) := by decide +kernel
theorem d_X6_parish_1 : decode m_X6_parish.2.1 1 = .ok (.iconst 0, 1) := by decide +kernel
theorem d_X6_parish_2 : decode m_X6_parish.2.1 2 = .ok (.putfield 52, 3) := by decide +kernel
theorem d_X6_parish_5 : decode m_X6_parish.2.1 5 = .ok (.iload_n 1, 1) := by decide +kernel
theorem d_X6_parish_6 : decode m_X6_parish.2.1 6 = .ok (.invokestatic 71, 3) := by decide +kernel
theorem d_X6_parish_9 : decode m_X6_parish.2.1 9 = .ok (.ifCond .ne 5, 3) := by decide +kernel
theorem d_X6_parish_12 : decode m_X6_parish.2.1 12 = .ok (.iconst (-1), 1) := by decide +kernel
theorem d_X6_parish_13 : decode m_X6_parish.2.1 13 = .ok (.ireturn, 1) := by decide +kernel
theorem d_X6_parish_14 : decode m_X6_parish.2.1 14 = .ok (.iload_n 2, 1) := by decide +kernel
theorem d_X6_parish_15 : decode m_X6_parish.2.1 15 = .ok (.invokestatic 75, 3) := by decide +kernel
theorem d_X6_parish_18 : decode m_X6_parish.2.1 18 = .ok (.ifCond .ne 6, 3) := by decide +kernel
theorem d_X6_parish_21 : decode m_X6_parish.2.1 21 = .ok (.bipush (-2), 2) := by decide +kernel
theorem d_X6_parish_23 : decode m_X6_parish.2.1 23 = .ok (.ireturn, 1) := by decide +kernel
theorem d_X6_parish_24 : decode m_X6_parish.2.1 24 = .ok (.aload_n 0, 1) := by decide +kernel
theorem d_X6_parish_25 : decode m_X6_parish.2.1 25 = .ok (.iload_n 1, 1) := by decide +kernel
theorem d_X6_parish_26 : decode m_X6_parish.2.1 26 = .ok (.iload_n 2, 1) := by decide +kernel
theorem d_X6_parish_27 : decode m_X6_parish.2.1 27 = .ok (.iload_n 3, 1) := by decide +kernel
theorem d_X6_parish_28 : decode m_X6_parish.2.1 28 = .ok (.iload 4, 2) := by decide +kernel
theorem d_X6_parish_30 : decode m_X6_parish.2.1 30 = .ok (.invokevirtual 78, 3) := by decide +kernel
theorem d_X6_parish_33 : decode m_X6_parish.2.1 33 = .ok (.istore 5, 2) := by decide +kernel
theorem d_X6_parish_35 : decode m_X6_parish.2.1 35 = .ok (.iload 5, 2) := by decide +kernel
theorem d_X6_parish_37 : decode m_X6_parish.2.1 37 = .ok (.ifCond .eq 10, 3) := by decide +kernel
theorem d_X6_parish_40 : decode m_X6_parish.2.1 40 = .ok (.aload_n 0, 1) := by decide +kernel
theorem d_X6_parish_41 : decode m_X6_parish.2.1 41 = .ok (.iload 5, 2) := by decide +kernel
theorem d_X6_parish_43 : decode m_X6_parish.2.1 43 = .ok (.invokevirtual 82, 3) := by decide +kernel
theorem d_X6_parish_46 : decode m_X6_parish.2.1 46 = .ok (.ireturn, 1) := by decide +kernel
theorem d_X6_parish_47 : decode m_X6_parish.2.1 47 = .ok (.bipush 60, 2) := by decide +kernel
theorem d_X6_parish_49 : decode m_X6_parish.2.1 49 = .ok (.iload_n 1, 1) := by decide +kernel
theorem d_X6_parish_50 : decode m_X6_parish.2.1 50 = .ok (.imul, 1) := by decide +kernel
theorem d_X6_parish_51 : decode m_X6_parish.2.1 51 = .ok (.iload_n 3, 1) := by decide +kernel
theorem d_X6_parish_52 : decode m_X6_parish.2.1 52 = .ok (.iadd, 1) := by decide +kernel
theorem d_X6_parish_53 : decode m_X6_parish.2.1 53 = .ok (.istore 6, 2) := by decide +kernel
theorem d_X6_parish_55 : decode m_X6_parish.2.1 55 = .ok (.aload_n 0, 1) := by decide +kernel
theorem d_X6_parish_56 : decode m_X6_parish.2.1 56 = .ok (.iload 6, 2) := by decide +kernel
theorem d_X6_parish_58 : decode m_X6_parish.2.1 58 = .ok (.putfield 68, 3) := by decide +kernel
theorem d_X6_parish_61 : decode m_X6_parish.2.1 61 = .ok (.aload_n 0, 1) := by decide +kernel
theorem d_X6_parish_62 : decode m_X6_parish.2.1 62 = .ok (.iload 6, 2) := by decide +kernel
theorem d_X6_parish_64 : decode m_X6_parish.2.1 64 = .ok (.iload 4, 2) := by decide +kernel
theorem d_X6_parish_66 : decode m_X6_parish.2.1 66 = .ok (.iadd, 1) := by decide +kernel
theorem d_X6_parish_67 : decode m_X6_parish.2.1 67 = .ok (.invokevirtual 86, 3) := by decide +kernel
theorem d_X6_parish_70 : decode m_X6_parish.2.1 70 = .ok (.ifCond .ne 14, 3) := by decide +kernel
theorem d_X6_parish_73 : decode m_X6_parish.2.1 73 = .ok (.bipush (-100), 2) := by decide +kernel
theorem d_X6_parish_75 : decode m_X6_parish.2.1 75 = .ok (.aload_n 0, 1) := by decide +kernel
theorem d_X6_parish_76 : decode m_X6_parish.2.1 76 = .ok (.getfield 68, 3) := by decide +kernel
theorem d_X6_parish_79 : decode m_X6_parish.2.1 79 = .ok (.iload 6, 2) := by decide +kernel
theorem d_X6_parish_81 : decode m_X6_parish.2.1 81 = .ok (.isub, 1) := by decide +kernel
theorem d_X6_parish_82 : decode m_X6_parish.2.1 82 = .ok (.isub, 1) := by decide +kernel
theorem d_X6_parish_83 : decode m_X6_parish.2.1 83 = .ok (.ireturn, 1) := by decide +kernel
theorem d_X6_parish_84 : decode m_X6_parish.2.1 84 = .ok (.aload_n 0, 1) := by decide +kernel
theorem d_X6_parish_85 : decode m_X6_parish.2.1 85 = .ok (.invokevirtual 89, 3) := by decide +kernel
theorem d_X6_parish_88 : decode m_X6_parish.2.1 88 = .ok (.aload_n 0, 1) := by decide +kernel
theorem d_X6_parish_89 : decode m_X6_parish.2.1 89 = .ok (.getfield 62, 3) := by decide +kernel
theorem d_X6_parish_92 : decode m_X6_parish.2.1 92 = .ok (.ireturn, 1) := by decide +kernel
theorem d_X6_takeParish_0 : decode m_X6_takeParish.2.1 0 = .ok (.aload_n 0, 1) := by decide +kernel
theorem d_X6_takeParish_1 : decode m_X6_takeParish.2.1 1 = .ok (.aload_n 0, 1) := by decide +kernel
theorem d_X6_takeParish_2 : decode m_X6_takeParish.2.1 2 = .ok (.getfield 92, 3) := by decide +kernel
theorem d_X6_takeParish_5 : decode m_X6_takeParish.2.1 5 = .ok (.putfield 62, 3) := by decide +kernel
theorem d_X6_takeParish_8 : decode m_X6_takeParish.2.1 8 = .ok (.aload_n 0, 1) := by decide +kernel
theorem d_X6_takeParish_9 : decode m_X6_takeParish.2.1 9 = .ok (.aload_n 0, 1) := by decide +kernel
theorem d_X6_takeParish_10 : decode m_X6_takeParish.2.1 10 = .ok (.getfield 95, 3) := by decide +kernel
theorem d_X6_takeParish_13 : decode m_X6_takeParish.2.1 13 = .ok (.putfield 65, 3) := by decide +kernel
theorem d_X6_takeParish_16 : decode m_X6_takeParish.2.1 16 = .ok (.aload_n 0, 1) := by decide +kernel
theorem d_X6_takeParish_17 : decode m_X6_takeParish.2.1 17 = .ok (.aload_n 0, 1) := by decide +kernel
theorem d_X6_takeParish_18 : decode m_X6_takeParish.2.1 18 = .ok (.getfield 98, 3) := by decide +kernel
theorem d_X6_takeParish_21 : decode m_X6_takeParish.2.1 21 = .ok (.putfield 101, 3) := by decide +kernel
theorem d_X6_takeParish_24 : decode m_X6_takeParish.2.1 24 = .ok (.iconst 0, 1) := by decide +kernel
theorem d_X6_takeParish_25 : decode m_X6_takeParish.2.1 25 = .ok (.istore_n 1, 1) := by decide +kernel
theorem d_X6_takeParish_26 : decode m_X6_takeParish.2.1 26 = .ok (.iload_n 1, 1) := by decide +kernel
theorem d_X6_takeParish_27 : decode m_X6_takeParish.2.1 27 = .ok (.aload_n 0, 1) := by decide +kernel
theorem d_X6_takeParish_28 : decode m_X6_takeParish.2.1 28 = .ok (.getfield 62, 3) := by decide +kernel
theorem d_X6_takeParish_31 : decode m_X6_takeParish.2.1 31 = .ok (.if_icmp .ge 62, 3) := by decide +kernel
theorem d_X6_takeParish_34 : decode m_X6_takeParish.2.1 34 = .ok (.aload_n 0, 1) := by decide +kernel
theorem d_X6_takeParish_35 : decode m_X6_takeParish.2.1 35 = .ok (.getfield 19, 3) := by decide +kernel
theorem d_X6_takeParish_38 : decode m_X6_takeParish.2.1 38 = .ok (.iload_n 1, 1) := by decide +kernel
theorem d_X6_takeParish_39 : decode m_X6_takeParish.2.1 39 = .ok (.aload_n 0, 1) := by decide +kernel
theorem d_X6_takeParish_40 : decode m_X6_takeParish.2.1 40 = .ok (.getfield 34, 3) := by decide +kernel
theorem d_X6_takeParish_43 : decode m_X6_takeParish.2.1 43 = .ok (.iconst 3, 1) := by decide +kernel
theorem d_X6_takeParish_44 : decode m_X6_takeParish.2.1 44 = .ok (.iload_n 1, 1) := by decide +kernel
theorem d_X6_takeParish_45 : decode m_X6_takeParish.2.1 45 = .ok (.imul, 1) := by decide +kernel
theorem d_X6_takeParish_46 : decode m_X6_takeParish.2.1 46 = .ok (.iaload, 1) := by decide +kernel
theorem d_X6_takeParish_47 : decode m_X6_takeParish.2.1 47 = .ok (.iastore, 1) := by decide +kernel
theorem d_X6_takeParish_48 : decode m_X6_takeParish.2.1 48 = .ok (.aload_n 0, 1) := by decide +kernel
theorem d_X6_takeParish_49 : decode m_X6_takeParish.2.1 49 = .ok (.getfield 22, 3) := by decide +kernel
theorem d_X6_takeParish_52 : decode m_X6_takeParish.2.1 52 = .ok (.iload_n 1, 1) := by decide +kernel
theorem d_X6_takeParish_53 : decode m_X6_takeParish.2.1 53 = .ok (.aload_n 0, 1) := by decide +kernel
theorem d_X6_takeParish_54 : decode m_X6_takeParish.2.1 54 = .ok (.getfield 34, 3) := by decide +kernel
theorem d_X6_takeParish_57 : decode m_X6_takeParish.2.1 57 = .ok (.iconst 3, 1) := by decide +kernel
theorem d_X6_takeParish_58 : decode m_X6_takeParish.2.1 58 = .ok (.iload_n 1, 1) := by decide +kernel
theorem d_X6_takeParish_59 : decode m_X6_takeParish.2.1 59 = .ok (.imul, 1) := by decide +kernel
theorem d_X6_takeParish_60 : decode m_X6_takeParish.2.1 60 = .ok (.iconst 1, 1) := by decide +kernel
theorem d_X6_takeParish_61 : decode m_X6_takeParish.2.1 61 = .ok (.iadd, 1) := by decide +kernel
theorem d_X6_takeParish_62 : decode m_X6_takeParish.2.1 62 = .ok (.iaload, 1) := by decide +kernel
theorem d_X6_takeParish_63 : decode m_X6_takeParish.2.1 63 = .ok (.iastore, 1) := by decide +kernel
theorem d_X6_takeParish_64 : decode m_X6_takeParish.2.1 64 = .ok (.aload_n 0, 1) := by decide +kernel
theorem d_X6_takeParish_65 : decode m_X6_takeParish.2.1 65 = .ok (.getfield 25, 3) := by decide +kernel
theorem d_X6_takeParish_68 : decode m_X6_takeParish.2.1 68 = .ok (.iload_n 1, 1) := by decide +kernel
theorem d_X6_takeParish_69 : decode m_X6_takeParish.2.1 69 = .ok (.aload_n 0, 1) := by decide +kernel
theorem d_X6_takeParish_70 : decode m_X6_takeParish.2.1 70 = .ok (.getfield 34, 3) := by decide +kernel
theorem d_X6_takeParish_73 : decode m_X6_takeParish.2.1 73 = .ok (.iconst 3, 1) := by decide +kernel
theorem d_X6_takeParish_74 : decode m_X6_takeParish.2.1 74 = .ok (.iload_n 1, 1) := by decide +kernel
theorem d_X6_takeParish_75 : decode m_X6_takeParish.2.1 75 = .ok (.imul, 1) := by decide +kernel
theorem d_X6_takeParish_76 : decode m_X6_takeParish.2.1 76 = .ok (.iconst 2, 1) := by decide +kernel
theorem d_X6_takeParish_77 : decode m_X6_takeParish.2.1 77 = .ok (.iadd, 1) := by decide +kernel
theorem d_X6_takeParish_78 : decode m_X6_takeParish.2.1 78 = .ok (.iaload, 1) := by decide +kernel
theorem d_X6_takeParish_79 : decode m_X6_takeParish.2.1 79 = .ok (.iastore, 1) := by decide +kernel
theorem d_X6_takeParish_80 : decode m_X6_takeParish.2.1 80 = .ok (.aload_n 0, 1) := by decide +kernel
theorem d_X6_takeParish_81 : decode m_X6_takeParish.2.1 81 = .ok (.getfield 28, 3) := by decide +kernel
theorem d_X6_takeParish_84 : decode m_X6_takeParish.2.1 84 = .ok (.iload_n 1, 1) := by decide +kernel
theorem d_X6_takeParish_85 : decode m_X6_takeParish.2.1 85 = .ok (.iconst 0, 1) := by decide +kernel
theorem d_X6_takeParish_86 : decode m_X6_takeParish.2.1 86 = .ok (.iastore, 1) := by decide +kernel
theorem d_X6_takeParish_87 : decode m_X6_takeParish.2.1 87 = .ok (.iinc 1 1, 3) := by decide +kernel
theorem d_X6_takeParish_90 : decode m_X6_takeParish.2.1 90 = .ok (.goto (-64), 3) := by decide +kernel
theorem d_X6_takeParish_93 : decode m_X6_takeParish.2.1 93 = .ok (.iconst 0, 1) := by decide +kernel
theorem d_X6_takeParish_94 : decode m_X6_takeParish.2.1 94 = .ok (.istore_n 1, 1) := by decide +kernel
theorem d_X6_takeParish_95 : decode m_X6_takeParish.2.1 95 = .ok (.iload_n 1, 1) := by decide +kernel
theorem d_X6_takeParish_96 : decode m_X6_takeParish.2.1 96 = .ok (.aload_n 0, 1) := by decide +kernel
theorem d_X6_takeParish_97 : decode m_X6_takeParish.2.1 97 = .ok (.getfield 65, 3) := by decide +kernel
theorem d_X6_takeParish_100 : decode m_X6_takeParish.2.1 100 = .ok (.if_icmp .ge 21, 3) := by decide +kernel
theorem d_X6_takeParish_103 : decode m_X6_takeParish.2.1 103 = .ok (.aload_n 0, 1) := by decide +kernel
theorem d_X6_takeParish_104 : decode m_X6_takeParish.2.1 104 = .ok (.getfield 31, 3) := by decide +kernel
theorem d_X6_takeParish_107 : decode m_X6_takeParish.2.1 107 = .ok (.iload_n 1, 1) := by decide +kernel
theorem d_X6_takeParish_108 : decode m_X6_takeParish.2.1 108 = .ok (.aload_n 0, 1) := by decide +kernel
theorem d_X6_takeParish_109 : decode m_X6_takeParish.2.1 109 = .ok (.getfield 37, 3) := by decide +kernel
theorem d_X6_takeParish_112 : decode m_X6_takeParish.2.1 112 = .ok (.iload_n 1, 1) := by decide +kernel
theorem d_X6_takeParish_113 : decode m_X6_takeParish.2.1 113 = .ok (.iaload, 1) := by decide +kernel
theorem d_X6_takeParish_114 : decode m_X6_takeParish.2.1 114 = .ok (.iastore, 1) := by decide +kernel
theorem d_X6_takeParish_115 : decode m_X6_takeParish.2.1 115 = .ok (.iinc 1 1, 3) := by decide +kernel
theorem d_X6_takeParish_118 : decode m_X6_takeParish.2.1 118 = .ok (.goto (-23), 3) := by decide +kernel
theorem d_X6_takeParish_121 : decode m_X6_takeParish.2.1 121 = .ok (.aload_n 0, 1) := by decide +kernel
theorem d_X6_takeParish_122 : decode m_X6_takeParish.2.1 122 = .ok (.iconst 0, 1) := by decide +kernel
theorem d_X6_takeParish_123 : decode m_X6_takeParish.2.1 123 = .ok (.putfield 104, 3) := by decide +kernel
theorem d_X6_takeParish_126 : decode m_X6_takeParish.2.1 126 = .ok (.aload_n 0, 1) := by decide +kernel
theorem d_X6_takeParish_127 : decode m_X6_takeParish.2.1 127 = .ok (.iconst 0, 1) := by decide +kernel
theorem d_X6_takeParish_128 : decode m_X6_takeParish.2.1 128 = .ok (.putfield 107, 3) := by decide +kernel
theorem d_X6_takeParish_131 : decode m_X6_takeParish.2.1 131 = .ok (.aload_n 0, 1) := by decide +kernel
theorem d_X6_takeParish_132 : decode m_X6_takeParish.2.1 132 = .ok (.iconst 0, 1) := by decide +kernel
theorem d_X6_takeParish_133 : decode m_X6_takeParish.2.1 133 = .ok (.putfield 110, 3) := by decide +kernel
theorem d_X6_takeParish_136 : decode m_X6_takeParish.2.1 136 = .ok (.aload_n 0, 1) := by decide +kernel
theorem d_X6_takeParish_137 : decode m_X6_takeParish.2.1 137 = .ok (.iconst 0, 1) := by decide +kernel
theorem d_X6_takeParish_138 : decode m_X6_takeParish.2.1 138 = .ok (.putfield 113, 3) := by decide +kernel
theorem d_X6_takeParish_141 : decode m_X6_takeParish.2.1 141 = .ok (.aload_n 0, 1) := by decide +kernel
theorem d_X6_takeParish_142 : decode m_X6_takeParish.2.1 142 = .ok (.iconst 0, 1) := by decide +kernel
theorem d_X6_takeParish_143 : decode m_X6_takeParish.2.1 143 = .ok (.putfield 116, 3) := by decide +kernel
theorem d_X6_takeParish_146 : decode m_X6_takeParish.2.1 146 = .ok (.aload_n 0, 1) := by decide +kernel
theorem d_X6_takeParish_147 : decode m_X6_takeParish.2.1 147 = .ok (.iconst 0, 1) := by decide +kernel
theorem d_X6_takeParish_148 : decode m_X6_takeParish.2.1 148 = .ok (.putfield 119, 3) := by decide +kernel
theorem d_X6_takeParish_151 : decode m_X6_takeParish.2.1 151 = .ok (.return_, 1) := by decide +kernel
theorem d_X6_readParish_0 : decode m_X6_readParish.2.1 0 = .ok (.aload_n 0, 1) := by decide +kernel
theorem d_X6_readParish_1 : decode m_X6_readParish.2.1 1 = .ok (.iconst 0, 1) := by decide +kernel
theorem d_X6_readParish_2 : decode m_X6_readParish.2.1 2 = .ok (.putfield 92, 3) := by decide +kernel
theorem d_X6_readParish_5 : decode m_X6_readParish.2.1 5 = .ok (.aload_n 0, 1) := by decide +kernel
theorem d_X6_readParish_6 : decode m_X6_readParish.2.1 6 = .ok (.iconst 0, 1) := by decide +kernel
theorem d_X6_readParish_7 : decode m_X6_readParish.2.1 7 = .ok (.putfield 95, 3) := by decide +kernel
theorem d_X6_readParish_10 : decode m_X6_readParish.2.1 10 = .ok (.aload_n 0, 1) := by decide +kernel
theorem d_X6_readParish_11 : decode m_X6_readParish.2.1 11 = .ok (.iload_n 1, 1) := by decide +kernel
theorem d_X6_readParish_12 : decode m_X6_readParish.2.1 12 = .ok (.bipush 116, 2) := by decide +kernel
theorem d_X6_readParish_14 : decode m_X6_readParish.2.1 14 = .ok (.invokevirtual 122, 3) := by decide +kernel
theorem d_X6_readParish_17 : decode m_X6_readParish.2.1 17 = .ok (.ifCond .ne 5, 3) := by decide +kernel
theorem d_X6_readParish_20 : decode m_X6_readParish.2.1 20 = .ok (.iconst 0, 1) := by decide +kernel
theorem d_X6_readParish_21 : decode m_X6_readParish.2.1 21 = .ok (.ireturn, 1) := by decide +kernel
theorem d_X6_readParish_22 : decode m_X6_readParish.2.1 22 = .ok (.aload_n 0, 1) := by decide +kernel
theorem d_X6_readParish_23 : decode m_X6_readParish.2.1 23 = .ok (.aload_n 0, 1) := by decide +kernel
theorem d_X6_readParish_24 : decode m_X6_readParish.2.1 24 = .ok (.iload_n 1, 1) := by decide +kernel
theorem d_X6_readParish_25 : decode m_X6_readParish.2.1 25 = .ok (.iconst 1, 1) := by decide +kernel
theorem d_X6_readParish_26 : decode m_X6_readParish.2.1 26 = .ok (.iconst 4, 1) := by decide +kernel
theorem d_X6_readParish_27 : decode m_X6_readParish.2.1 27 = .ok (.invokevirtual 126, 3) := by decide +kernel
theorem d_X6_readParish_30 : decode m_X6_readParish.2.1 30 = .ok (.putfield 98, 3) := by decide +kernel
theorem d_X6_readParish_33 : decode m_X6_readParish.2.1 33 = .ok (.aload_n 0, 1) := by decide +kernel
theorem d_X6_readParish_34 : decode m_X6_readParish.2.1 34 = .ok (.getfield 98, 3) := by decide +kernel
theorem d_X6_readParish_37 : decode m_X6_readParish.2.1 37 = .ok (.bipush (-9), 2) := by decide +kernel
theorem d_X6_readParish_39 : decode m_X6_readParish.2.1 39 = .ok (.if_icmp .ne 5, 3) := by decide +kernel
theorem d_X6_readParish_42 : decode m_X6_readParish.2.1 42 = .ok (.iconst 0, 1) := by decide +kernel
theorem d_X6_readParish_43 : decode m_X6_readParish.2.1 43 = .ok (.ireturn, 1) := by decide +kernel
theorem d_X6_readParish_44 : decode m_X6_readParish.2.1 44 = .ok (.aload_n 0, 1) := by decide +kernel
theorem d_X6_readParish_45 : decode m_X6_readParish.2.1 45 = .ok (.getfield 92, 3) := by decide +kernel
theorem d_X6_readParish_48 : decode m_X6_readParish.2.1 48 = .ok (.ifCond .eq 33, 3) := by decide +kernel
theorem d_X6_readParish_51 : decode m_X6_readParish.2.1 51 = .ok (.aload_n 0, 1) := by decide +kernel
theorem d_X6_readParish_52 : decode m_X6_readParish.2.1 52 = .ok (.getfield 92, 3) := by decide +kernel
theorem d_X6_readParish_55 : decode m_X6_readParish.2.1 55 = .ok (.iconst 5, 1) := by decide +kernel
theorem d_X6_readParish_56 : decode m_X6_readParish.2.1 56 = .ok (.if_icmp .ge 45, 3) := by decide +kernel
theorem d_X6_readParish_59 : decode m_X6_readParish.2.1 59 = .ok (.aload_n 0, 1) := by decide +kernel
theorem d_X6_readParish_60 : decode m_X6_readParish.2.1 60 = .ok (.getfield 68, 3) := by decide +kernel
theorem d_X6_readParish_63 : decode m_X6_readParish.2.1 63 = .ok (.iload_n 1, 1) := by decide +kernel
theorem d_X6_readParish_64 : decode m_X6_readParish.2.1 64 = .ok (.if_icmp .ge 37, 3) := by decide +kernel
theorem d_X6_readParish_67 : decode m_X6_readParish.2.1 67 = .ok (.aload_n 0, 1) := by decide +kernel
theorem d_X6_readParish_68 : decode m_X6_readParish.2.1 68 = .ok (.getfield 16, 3) := by decide +kernel
theorem d_X6_readParish_71 : decode m_X6_readParish.2.1 71 = .ok (.aload_n 0, 1) := by decide +kernel
theorem d_X6_readParish_72 : decode m_X6_readParish.2.1 72 = .ok (.getfield 68, 3) := by decide +kernel
theorem d_X6_readParish_75 : decode m_X6_readParish.2.1 75 = .ok (.iaload, 1) := by decide +kernel
theorem d_X6_readParish_76 : decode m_X6_readParish.2.1 76 = .ok (.bipush 59, 2) := by decide +kernel
theorem d_X6_readParish_78 : decode m_X6_readParish.2.1 78 = .ok (.if_icmp .ne 23, 3) := by decide +kernel
theorem d_X6_readParish_81 : decode m_X6_readParish.2.1 81 = .ok (.aload_n 0, 1) := by decide +kernel
theorem d_X6_readParish_82 : decode m_X6_readParish.2.1 82 = .ok (.iload_n 1, 1) := by decide +kernel
theorem d_X6_readParish_83 : decode m_X6_readParish.2.1 83 = .ok (.bipush 59, 2) := by decide +kernel
theorem d_X6_readParish_85 : decode m_X6_readParish.2.1 85 = .ok (.invokevirtual 122, 3) := by decide +kernel
theorem d_X6_readParish_88 : decode m_X6_readParish.2.1 88 = .ok (.ifCond .eq 11, 3) := by decide +kernel
theorem d_X6_readParish_91 : decode m_X6_readParish.2.1 91 = .ok (.aload_n 0, 1) := by decide +kernel
theorem d_X6_readParish_92 : decode m_X6_readParish.2.1 92 = .ok (.iload_n 1, 1) := by decide +kernel
theorem d_X6_readParish_93 : decode m_X6_readParish.2.1 93 = .ok (.invokevirtual 130, 3) := by decide +kernel
theorem d_X6_readParish_96 : decode m_X6_readParish.2.1 96 = .ok (.ifCond .ne (-52), 3) := by decide +kernel
theorem d_X6_readParish_99 : decode m_X6_readParish.2.1 99 = .ok (.iconst 0, 1) := by decide +kernel
theorem d_X6_readParish_100 : decode m_X6_readParish.2.1 100 = .ok (.ireturn, 1) := by decide +kernel
theorem d_X6_readParish_101 : decode m_X6_readParish.2.1 101 = .ok (.aload_n 0, 1) := by decide +kernel
theorem d_X6_readParish_102 : decode m_X6_readParish.2.1 102 = .ok (.getfield 68, 3) := by decide +kernel
theorem d_X6_readParish_105 : decode m_X6_readParish.2.1 105 = .ok (.iload_n 1, 1) := by decide +kernel
theorem d_X6_readParish_106 : decode m_X6_readParish.2.1 106 = .ok (.if_icmp .eq 11, 3) := by decide +kernel
theorem d_X6_readParish_109 : decode m_X6_readParish.2.1 109 = .ok (.aload_n 0, 1) := by decide +kernel
theorem d_X6_readParish_110 : decode m_X6_readParish.2.1 110 = .ok (.iload_n 1, 1) := by decide +kernel
theorem d_X6_readParish_111 : decode m_X6_readParish.2.1 111 = .ok (.invokevirtual 133, 3) := by decide +kernel
theorem d_X6_readParish_114 : decode m_X6_readParish.2.1 114 = .ok (.ifCond .eq 7, 3) := by decide +kernel
theorem d_X6_readParish_117 : decode m_X6_readParish.2.1 117 = .ok (.iconst 1, 1) := by decide +kernel
theorem d_X6_readParish_118 : decode m_X6_readParish.2.1 118 = .ok (.goto 4, 3) := by decide +kernel
theorem d_X6_readParish_121 : decode m_X6_readParish.2.1 121 = .ok (.iconst 0, 1) := by decide +kernel
theorem d_X6_readParish_122 : decode m_X6_readParish.2.1 122 = .ok (.ireturn, 1) := by decide +kernel
theorem d_X6_readStonesAll_0 : decode m_X6_readStonesAll.2.1 0 = .ok (.aload_n 0, 1) := by decide +kernel
theorem d_X6_readStonesAll_1 : decode m_X6_readStonesAll.2.1 1 = .ok (.iload_n 1, 1) := by decide +kernel
theorem d_X6_readStonesAll_2 : decode m_X6_readStonesAll.2.1 2 = .ok (.bipush 33, 2) := by decide +kernel
theorem d_X6_readStonesAll_4 : decode m_X6_readStonesAll.2.1 4 = .ok (.invokevirtual 122, 3) := by decide +kernel
theorem d_X6_readStonesAll_7 : decode m_X6_readStonesAll.2.1 7 = .ok (.ifCond .ne 5, 3) := by decide +kernel
theorem d_X6_readStonesAll_10 : decode m_X6_readStonesAll.2.1 10 = .ok (.iconst 0, 1) := by decide +kernel
theorem d_X6_readStonesAll_11 : decode m_X6_readStonesAll.2.1 11 = .ok (.ireturn, 1) := by decide +kernel
theorem d_X6_readStonesAll_12 : decode m_X6_readStonesAll.2.1 12 = .ok (.aload_n 0, 1) := by decide +kernel
theorem d_X6_readStonesAll_13 : decode m_X6_readStonesAll.2.1 13 = .ok (.getfield 95, 3) := by decide +kernel
theorem d_X6_readStonesAll_16 : decode m_X6_readStonesAll.2.1 16 = .ok (.ifCond .eq 19, 3) := by decide +kernel
theorem d_X6_readStonesAll_19 : decode m_X6_readStonesAll.2.1 19 = .ok (.aload_n 0, 1) := by decide +kernel
theorem d_X6_readStonesAll_20 : decode m_X6_readStonesAll.2.1 20 = .ok (.getfield 95, 3) := by decide +kernel
theorem d_X6_readStonesAll_23 : decode m_X6_readStonesAll.2.1 23 = .ok (.iconst 4, 1) := by decide +kernel
theorem d_X6_readStonesAll_24 : decode m_X6_readStonesAll.2.1 24 = .ok (.if_icmp .ge 57, 3) := by decide +kernel
theorem d_X6_readStonesAll_27 : decode m_X6_readStonesAll.2.1 27 = .ok (.aload_n 0, 1) := by decide +kernel
theorem d_X6_readStonesAll_28 : decode m_X6_readStonesAll.2.1 28 = .ok (.getfield 68, 3) := by decide +kernel
theorem d_X6_readStonesAll_31 : decode m_X6_readStonesAll.2.1 31 = .ok (.iload_n 1, 1) := by decide +kernel
theorem d_X6_readStonesAll_32 : decode m_X6_readStonesAll.2.1 32 = .ok (.if_icmp .ge 49, 3) := by decide +kernel
theorem d_X6_readStonesAll_35 : decode m_X6_readStonesAll.2.1 35 = .ok (.aload_n 0, 1) := by decide +kernel
theorem d_X6_readStonesAll_36 : decode m_X6_readStonesAll.2.1 36 = .ok (.getfield 37, 3) := by decide +kernel
theorem d_X6_readStonesAll_39 : decode m_X6_readStonesAll.2.1 39 = .ok (.aload_n 0, 1) := by decide +kernel
theorem d_X6_readStonesAll_40 : decode m_X6_readStonesAll.2.1 40 = .ok (.getfield 95, 3) := by decide +kernel
theorem d_X6_readStonesAll_43 : decode m_X6_readStonesAll.2.1 43 = .ok (.aload_n 0, 1) := by decide +kernel
theorem d_X6_readStonesAll_44 : decode m_X6_readStonesAll.2.1 44 = .ok (.iload_n 1, 1) := by decide +kernel
theorem d_X6_readStonesAll_45 : decode m_X6_readStonesAll.2.1 45 = .ok (.iconst 1, 1) := by decide +kernel
theorem d_X6_readStonesAll_46 : decode m_X6_readStonesAll.2.1 46 = .ok (.bipush 9, 2) := by decide +kernel
theorem d_X6_readStonesAll_48 : decode m_X6_readStonesAll.2.1 48 = .ok (.invokevirtual 126, 3) := by decide +kernel
theorem d_X6_readStonesAll_51 : decode m_X6_readStonesAll.2.1 51 = .ok (.iastore, 1) := by decide +kernel
theorem d_X6_readStonesAll_52 : decode m_X6_readStonesAll.2.1 52 = .ok (.aload_n 0, 1) := by decide +kernel
theorem d_X6_readStonesAll_53 : decode m_X6_readStonesAll.2.1 53 = .ok (.getfield 37, 3) := by decide +kernel
theorem d_X6_readStonesAll_56 : decode m_X6_readStonesAll.2.1 56 = .ok (.aload_n 0, 1) := by decide +kernel
theorem d_X6_readStonesAll_57 : decode m_X6_readStonesAll.2.1 57 = .ok (.getfield 95, 3) := by decide +kernel
theorem d_X6_readStonesAll_60 : decode m_X6_readStonesAll.2.1 60 = .ok (.iaload, 1) := by decide +kernel
theorem d_X6_readStonesAll_61 : decode m_X6_readStonesAll.2.1 61 = .ok (.bipush (-9), 2) := by decide +kernel
theorem d_X6_readStonesAll_63 : decode m_X6_readStonesAll.2.1 63 = .ok (.if_icmp .ne 5, 3) := by decide +kernel
theorem d_X6_readStonesAll_66 : decode m_X6_readStonesAll.2.1 66 = .ok (.iconst 0, 1) := by decide +kernel
theorem d_X6_readStonesAll_67 : decode m_X6_readStonesAll.2.1 67 = .ok (.ireturn, 1) := by decide +kernel
theorem d_X6_readStonesAll_68 : decode m_X6_readStonesAll.2.1 68 = .ok (.aload_n 0, 1) := by decide +kernel
theorem d_X6_readStonesAll_69 : decode m_X6_readStonesAll.2.1 69 = .ok (.dup, 1) := by decide +kernel
theorem d_X6_readStonesAll_70 : decode m_X6_readStonesAll.2.1 70 = .ok (.getfield 95, 3) := by decide +kernel
theorem d_X6_readStonesAll_73 : decode m_X6_readStonesAll.2.1 73 = .ok (.iconst 1, 1) := by decide +kernel
theorem d_X6_readStonesAll_74 : decode m_X6_readStonesAll.2.1 74 = .ok (.iadd, 1) := by decide +kernel
theorem d_X6_readStonesAll_75 : decode m_X6_readStonesAll.2.1 75 = .ok (.putfield 95, 3) := by decide +kernel
theorem d_X6_readStonesAll_78 : decode m_X6_readStonesAll.2.1 78 = .ok (.goto (-66), 3) := by decide +kernel
theorem d_X6_readStonesAll_81 : decode m_X6_readStonesAll.2.1 81 = .ok (.aload_n 0, 1) := by decide +kernel
theorem d_X6_readStonesAll_82 : decode m_X6_readStonesAll.2.1 82 = .ok (.getfield 68, 3) := by decide +kernel
theorem d_X6_readStonesAll_85 : decode m_X6_readStonesAll.2.1 85 = .ok (.iload_n 1, 1) := by decide +kernel
theorem d_X6_readStonesAll_86 : decode m_X6_readStonesAll.2.1 86 = .ok (.if_icmp .ne 7, 3) := by decide +kernel
theorem d_X6_readStonesAll_89 : decode m_X6_readStonesAll.2.1 89 = .ok (.iconst 1, 1) := by decide +kernel
theorem d_X6_readStonesAll_90 : decode m_X6_readStonesAll.2.1 90 = .ok (.goto 4, 3) := by decide +kernel
theorem d_X6_readStonesAll_93 : decode m_X6_readStonesAll.2.1 93 = .ok (.iconst 0, 1) := by decide +kernel
theorem d_X6_readStonesAll_94 : decode m_X6_readStonesAll.2.1 94 = .ok (.ireturn, 1) := by decide +kernel
theorem d_X6_readHouse_0 : decode m_X6_readHouse.2.1 0 = .ok (.aload_n 0, 1) := by decide +kernel
theorem d_X6_readHouse_1 : decode m_X6_readHouse.2.1 1 = .ok (.getfield 68, 3) := by decide +kernel
theorem d_X6_readHouse_4 : decode m_X6_readHouse.2.1 4 = .ok (.iload_n 1, 1) := by decide +kernel
theorem d_X6_readHouse_5 : decode m_X6_readHouse.2.1 5 = .ok (.if_icmp .ge 15, 3) := by decide +kernel
theorem d_X6_readHouse_8 : decode m_X6_readHouse.2.1 8 = .ok (.aload_n 0, 1) := by decide +kernel
theorem d_X6_readHouse_9 : decode m_X6_readHouse.2.1 9 = .ok (.getfield 16, 3) := by decide +kernel
theorem d_X6_readHouse_12 : decode m_X6_readHouse.2.1 12 = .ok (.aload_n 0, 1) := by decide +kernel
theorem d_X6_readHouse_13 : decode m_X6_readHouse.2.1 13 = .ok (.getfield 68, 3) := by decide +kernel
theorem d_X6_readHouse_16 : decode m_X6_readHouse.2.1 16 = .ok (.iaload, 1) := by decide +kernel
theorem d_X6_readHouse_17 : decode m_X6_readHouse.2.1 17 = .ok (.goto 4, 3) := by decide +kernel
theorem d_X6_readHouse_20 : decode m_X6_readHouse.2.1 20 = .ok (.iconst 0, 1) := by decide +kernel
theorem d_X6_readHouse_21 : decode m_X6_readHouse.2.1 21 = .ok (.istore_n 2, 1) := by decide +kernel
theorem d_X6_readHouse_22 : decode m_X6_readHouse.2.1 22 = .ok (.iconst 3, 1) := by decide +kernel
theorem d_X6_readHouse_23 : decode m_X6_readHouse.2.1 23 = .ok (.aload_n 0, 1) := by decide +kernel
theorem d_X6_readHouse_24 : decode m_X6_readHouse.2.1 24 = .ok (.getfield 92, 3) := by decide +kernel
theorem d_X6_readHouse_27 : decode m_X6_readHouse.2.1 27 = .ok (.imul, 1) := by decide +kernel
theorem d_X6_readHouse_28 : decode m_X6_readHouse.2.1 28 = .ok (.istore_n 3, 1) := by decide +kernel
theorem d_X6_readHouse_29 : decode m_X6_readHouse.2.1 29 = .ok (.aload_n 0, 1) := by decide +kernel
theorem d_X6_readHouse_30 : decode m_X6_readHouse.2.1 30 = .ok (.getfield 34, 3) := by decide +kernel
theorem d_X6_readHouse_33 : decode m_X6_readHouse.2.1 33 = .ok (.iload_n 3, 1) := by decide +kernel
theorem d_X6_readHouse_34 : decode m_X6_readHouse.2.1 34 = .ok (.iload_n 2, 1) := by decide +kernel
theorem d_X6_readHouse_35 : decode m_X6_readHouse.2.1 35 = .ok (.bipush 112, 2) := by decide +kernel
theorem d_X6_readHouse_37 : decode m_X6_readHouse.2.1 37 = .ok (.if_icmp .ne 7, 3) := by decide +kernel
theorem d_X6_readHouse_40 : decode m_X6_readHouse.2.1 40 = .ok (.iconst 0, 1) := by decide +kernel
theorem d_X6_readHouse_41 : decode m_X6_readHouse.2.1 41 = .ok (.goto 25, 3) := by decide +kernel
theorem d_X6_readHouse_44 : decode m_X6_readHouse.2.1 44 = .ok (.iload_n 2, 1) := by decide +kernel
theorem d_X6_readHouse_45 : decode m_X6_readHouse.2.1 45 = .ok (.bipush 98, 2) := by decide +kernel
theorem d_X6_readHouse_47 : decode m_X6_readHouse.2.1 47 = .ok (.if_icmp .ne 7, 3) := by decide +kernel
theorem d_X6_readHouse_50 : decode m_X6_readHouse.2.1 50 = .ok (.iconst 1, 1) := by decide +kernel
theorem d_X6_readHouse_51 : decode m_X6_readHouse.2.1 51 = .ok (.goto 15, 3) := by decide +kernel
theorem d_X6_readHouse_54 : decode m_X6_readHouse.2.1 54 = .ok (.iload_n 2, 1) := by decide +kernel
theorem d_X6_readHouse_55 : decode m_X6_readHouse.2.1 55 = .ok (.bipush 100, 2) := by decide +kernel
theorem d_X6_readHouse_57 : decode m_X6_readHouse.2.1 57 = .ok (.if_icmp .ne 7, 3) := by decide +kernel
theorem d_X6_readHouse_60 : decode m_X6_readHouse.2.1 60 = .ok (.iconst 2, 1) := by decide +kernel
theorem d_X6_readHouse_61 : decode m_X6_readHouse.2.1 61 = .ok (.goto 5, 3) := by decide +kernel
theorem d_X6_readHouse_64 : decode m_X6_readHouse.2.1 64 = .ok (.bipush (-9), 2) := by decide +kernel
theorem d_X6_readHouse_66 : decode m_X6_readHouse.2.1 66 = .ok (.iastore, 1) := by decide +kernel
theorem d_X6_readHouse_67 : decode m_X6_readHouse.2.1 67 = .ok (.aload_n 0, 1) := by decide +kernel
theorem d_X6_readHouse_68 : decode m_X6_readHouse.2.1 68 = .ok (.getfield 34, 3) := by decide +kernel
theorem d_X6_readHouse_71 : decode m_X6_readHouse.2.1 71 = .ok (.iload_n 3, 1) := by decide +kernel
theorem d_X6_readHouse_72 : decode m_X6_readHouse.2.1 72 = .ok (.iaload, 1) := by decide +kernel
theorem d_X6_readHouse_73 : decode m_X6_readHouse.2.1 73 = .ok (.bipush (-9), 2) := by decide +kernel
theorem d_X6_readHouse_75 : decode m_X6_readHouse.2.1 75 = .ok (.if_icmp .ne 5, 3) := by decide +kernel
theorem d_X6_readHouse_78 : decode m_X6_readHouse.2.1 78 = .ok (.iconst 0, 1) := by decide +kernel
theorem d_X6_readHouse_79 : decode m_X6_readHouse.2.1 79 = .ok (.ireturn, 1) := by decide +kernel
theorem d_X6_readHouse_80 : decode m_X6_readHouse.2.1 80 = .ok (.aload_n 0, 1) := by decide +kernel
theorem d_X6_readHouse_81 : decode m_X6_readHouse.2.1 81 = .ok (.dup, 1) := by decide +kernel
theorem d_X6_readHouse_82 : decode m_X6_readHouse.2.1 82 = .ok (.getfield 68, 3) := by decide +kernel
theorem d_X6_readHouse_85 : decode m_X6_readHouse.2.1 85 = .ok (.iconst 1, 1) := by decide +kernel
theorem d_X6_readHouse_86 : decode m_X6_readHouse.2.1 86 = .ok (.iadd, 1) := by decide +kernel
theorem d_X6_readHouse_87 : decode m_X6_readHouse.2.1 87 = .ok (.putfield 68, 3) := by decide +kernel
theorem d_X6_readHouse_90 : decode m_X6_readHouse.2.1 90 = .ok (.aload_n 0, 1) := by decide +kernel
theorem d_X6_readHouse_91 : decode m_X6_readHouse.2.1 91 = .ok (.getfield 34, 3) := by decide +kernel
theorem d_X6_readHouse_94 : decode m_X6_readHouse.2.1 94 = .ok (.iload_n 3, 1) := by decide +kernel
theorem d_X6_readHouse_95 : decode m_X6_readHouse.2.1 95 = .ok (.iconst 1, 1) := by decide +kernel
theorem d_X6_readHouse_96 : decode m_X6_readHouse.2.1 96 = .ok (.iadd, 1) := by decide +kernel
theorem d_X6_readHouse_97 : decode m_X6_readHouse.2.1 97 = .ok (.aload_n 0, 1) := by decide +kernel
theorem d_X6_readHouse_98 : decode m_X6_readHouse.2.1 98 = .ok (.iload_n 1, 1) := by decide +kernel
theorem d_X6_readHouse_99 : decode m_X6_readHouse.2.1 99 = .ok (.iconst 0, 1) := by decide +kernel
theorem d_X6_readHouse_100 : decode m_X6_readHouse.2.1 100 = .ok (.bipush 9, 2) := by decide +kernel
theorem d_X6_readHouse_102 : decode m_X6_readHouse.2.1 102 = .ok (.invokevirtual 126, 3) := by decide +kernel
theorem d_X6_readHouse_105 : decode m_X6_readHouse.2.1 105 = .ok (.iastore, 1) := by decide +kernel
theorem d_X6_readHouse_106 : decode m_X6_readHouse.2.1 106 = .ok (.aload_n 0, 1) := by decide +kernel
theorem d_X6_readHouse_107 : decode m_X6_readHouse.2.1 107 = .ok (.getfield 34, 3) := by decide +kernel
theorem d_X6_readHouse_110 : decode m_X6_readHouse.2.1 110 = .ok (.iload_n 3, 1) := by decide +kernel
theorem d_X6_readHouse_111 : decode m_X6_readHouse.2.1 111 = .ok (.iconst 1, 1) := by decide +kernel
theorem d_X6_readHouse_112 : decode m_X6_readHouse.2.1 112 = .ok (.iadd, 1) := by decide +kernel
theorem d_X6_readHouse_113 : decode m_X6_readHouse.2.1 113 = .ok (.iaload, 1) := by decide +kernel
theorem d_X6_readHouse_114 : decode m_X6_readHouse.2.1 114 = .ok (.bipush (-9), 2) := by decide +kernel
theorem d_X6_readHouse_116 : decode m_X6_readHouse.2.1 116 = .ok (.if_icmp .ne 5, 3) := by decide +kernel
theorem d_X6_readHouse_119 : decode m_X6_readHouse.2.1 119 = .ok (.iconst 0, 1) := by decide +kernel
theorem d_X6_readHouse_120 : decode m_X6_readHouse.2.1 120 = .ok (.ireturn, 1) := by decide +kernel
theorem d_X6_readHouse_121 : decode m_X6_readHouse.2.1 121 = .ok (.aload_n 0, 1) := by decide +kernel
theorem d_X6_readHouse_122 : decode m_X6_readHouse.2.1 122 = .ok (.getfield 34, 3) := by decide +kernel
theorem d_X6_readHouse_125 : decode m_X6_readHouse.2.1 125 = .ok (.iload_n 3, 1) := by decide +kernel
theorem d_X6_readHouse_126 : decode m_X6_readHouse.2.1 126 = .ok (.iconst 2, 1) := by decide +kernel
theorem d_X6_readHouse_127 : decode m_X6_readHouse.2.1 127 = .ok (.iadd, 1) := by decide +kernel
theorem d_X6_readHouse_128 : decode m_X6_readHouse.2.1 128 = .ok (.aload_n 0, 1) := by decide +kernel
theorem d_X6_readHouse_129 : decode m_X6_readHouse.2.1 129 = .ok (.iload_n 1, 1) := by decide +kernel
theorem d_X6_readHouse_130 : decode m_X6_readHouse.2.1 130 = .ok (.iconst 0, 1) := by decide +kernel
theorem d_X6_readHouse_131 : decode m_X6_readHouse.2.1 131 = .ok (.bipush 9, 2) := by decide +kernel
theorem d_X6_readHouse_133 : decode m_X6_readHouse.2.1 133 = .ok (.invokevirtual 126, 3) := by decide +kernel
theorem d_X6_readHouse_136 : decode m_X6_readHouse.2.1 136 = .ok (.iastore, 1) := by decide +kernel
theorem d_X6_readHouse_137 : decode m_X6_readHouse.2.1 137 = .ok (.aload_n 0, 1) := by decide +kernel
theorem d_X6_readHouse_138 : decode m_X6_readHouse.2.1 138 = .ok (.dup, 1) := by decide +kernel
theorem d_X6_readHouse_139 : decode m_X6_readHouse.2.1 139 = .ok (.getfield 92, 3) := by decide +kernel
theorem d_X6_readHouse_142 : decode m_X6_readHouse.2.1 142 = .ok (.iconst 1, 1) := by decide +kernel
theorem d_X6_readHouse_143 : decode m_X6_readHouse.2.1 143 = .ok (.iadd, 1) := by decide +kernel
theorem d_X6_readHouse_144 : decode m_X6_readHouse.2.1 144 = .ok (.putfield 92, 3) := by decide +kernel
theorem d_X6_readHouse_147 : decode m_X6_readHouse.2.1 147 = .ok (.aload_n 0, 1) := by decide +kernel
theorem d_X6_readHouse_148 : decode m_X6_readHouse.2.1 148 = .ok (.getfield 34, 3) := by decide +kernel
theorem d_X6_readHouse_151 : decode m_X6_readHouse.2.1 151 = .ok (.iload_n 3, 1) := by decide +kernel
theorem d_X6_readHouse_152 : decode m_X6_readHouse.2.1 152 = .ok (.iconst 2, 1) := by decide +kernel
theorem d_X6_readHouse_153 : decode m_X6_readHouse.2.1 153 = .ok (.iadd, 1) := by decide +kernel
theorem d_X6_readHouse_154 : decode m_X6_readHouse.2.1 154 = .ok (.iaload, 1) := by decide +kernel
theorem d_X6_readHouse_155 : decode m_X6_readHouse.2.1 155 = .ok (.bipush (-9), 2) := by decide +kernel
theorem d_X6_readHouse_157 : decode m_X6_readHouse.2.1 157 = .ok (.if_icmp .eq 7, 3) := by decide +kernel
theorem d_X6_readHouse_160 : decode m_X6_readHouse.2.1 160 = .ok (.iconst 1, 1) := by decide +kernel
theorem d_X6_readHouse_161 : decode m_X6_readHouse.2.1 161 = .ok (.goto 4, 3) := by decide +kernel
theorem d_X6_readHouse_164 : decode m_X6_readHouse.2.1 164 = .ok (.iconst 0, 1) := by decide +kernel
theorem d_X6_readHouse_165 : decode m_X6_readHouse.2.1 165 = .ok (.ireturn, 1) := by decide +kernel
theorem d_X6_weightOf_0 : decode m_X6_weightOf.2.1 0 = .ok (.aload_n 0, 1) := by decide +kernel
theorem d_X6_weightOf_1 : decode m_X6_weightOf.2.1 1 = .ok (.getfield 19, 3) := by decide +kernel
theorem d_X6_weightOf_4 : decode m_X6_weightOf.2.1 4 = .ok (.iload_n 1, 1) := by decide +kernel
theorem d_X6_weightOf_5 : decode m_X6_weightOf.2.1 5 = .ok (.iaload, 1) := by decide +kernel
theorem d_X6_weightOf_6 : decode m_X6_weightOf.2.1 6 = .ok (.ifCond .ne 12, 3) := by decide +kernel
theorem d_X6_weightOf_9 : decode m_X6_weightOf.2.1 9 = .ok (.aload_n 0, 1) := by decide +kernel
theorem d_X6_weightOf_10 : decode m_X6_weightOf.2.1 10 = .ok (.getfield 22, 3) := by decide +kernel
theorem d_X6_weightOf_13 : decode m_X6_weightOf.2.1 13 = .ok (.iload_n 1, 1) := by decide +kernel
theorem d_X6_weightOf_14 : decode m_X6_weightOf.2.1 14 = .ok (.iaload, 1) := by decide +kernel
theorem d_X6_weightOf_15 : decode m_X6_weightOf.2.1 15 = .ok (.goto 32, 3) := by decide +kernel
theorem d_X6_weightOf_18 : decode m_X6_weightOf.2.1 18 = .ok (.aload_n 0, 1) := by decide +kernel
theorem d_X6_weightOf_19 : decode m_X6_weightOf.2.1 19 = .ok (.getfield 19, 3) := by decide +kernel
theorem d_X6_weightOf_22 : decode m_X6_weightOf.2.1 22 = .ok (.iload_n 1, 1) := by decide +kernel
theorem d_X6_weightOf_23 : decode m_X6_weightOf.2.1 23 = .ok (.iaload, 1) := by decide +kernel
theorem d_X6_weightOf_24 : decode m_X6_weightOf.2.1 24 = .ok (.iconst 1, 1) := by decide +kernel
theorem d_X6_weightOf_25 : decode m_X6_weightOf.2.1 25 = .ok (.if_icmp .ne 14, 3) := by decide +kernel
theorem d_X6_weightOf_28 : decode m_X6_weightOf.2.1 28 = .ok (.aload_n 0, 1) := by decide +kernel
theorem d_X6_weightOf_29 : decode m_X6_weightOf.2.1 29 = .ok (.getfield 22, 3) := by decide +kernel
theorem d_X6_weightOf_32 : decode m_X6_weightOf.2.1 32 = .ok (.iload_n 1, 1) := by decide +kernel
theorem d_X6_weightOf_33 : decode m_X6_weightOf.2.1 33 = .ok (.iaload, 1) := by decide +kernel
theorem d_X6_weightOf_34 : decode m_X6_weightOf.2.1 34 = .ok (.iconst 1, 1) := by decide +kernel
theorem d_X6_weightOf_35 : decode m_X6_weightOf.2.1 35 = .ok (.iadd, 1) := by decide +kernel
theorem d_X6_weightOf_36 : decode m_X6_weightOf.2.1 36 = .ok (.goto 11, 3) := by decide +kernel
theorem d_X6_weightOf_39 : decode m_X6_weightOf.2.1 39 = .ok (.iconst 2, 1) := by decide +kernel
theorem d_X6_weightOf_40 : decode m_X6_weightOf.2.1 40 = .ok (.aload_n 0, 1) := by decide +kernel
theorem d_X6_weightOf_41 : decode m_X6_weightOf.2.1 41 = .ok (.getfield 22, 3) := by decide +kernel
theorem d_X6_weightOf_44 : decode m_X6_weightOf.2.1 44 = .ok (.iload_n 1, 1) := by decide +kernel
theorem d_X6_weightOf_45 : decode m_X6_weightOf.2.1 45 = .ok (.iaload, 1) := by decide +kernel
theorem d_X6_weightOf_46 : decode m_X6_weightOf.2.1 46 = .ok (.imul, 1) := by decide +kernel
theorem d_X6_weightOf_47 : decode m_X6_weightOf.2.1 47 = .ok (.ireturn, 1) := by decide +kernel
theorem d_X6_rankles_0 : decode m_X6_rankles.2.1 0 = .ok (.aload_n 0, 1) := by decide +kernel
theorem d_X6_rankles_1 : decode m_X6_rankles.2.1 1 = .ok (.getfield 104, 3) := by decide +kernel
theorem d_X6_rankles_4 : decode m_X6_rankles.2.1 4 = .ok (.iload_n 1, 1) := by decide +kernel
theorem d_X6_rankles_5 : decode m_X6_rankles.2.1 5 = .ok (.invokestatic 136, 3) := by decide +kernel
theorem d_X6_rankles_8 : decode m_X6_rankles.2.1 8 = .ok (.ifCond .ne 15, 3) := by decide +kernel
theorem d_X6_rankles_11 : decode m_X6_rankles.2.1 11 = .ok (.aload_n 0, 1) := by decide +kernel
theorem d_X6_rankles_12 : decode m_X6_rankles.2.1 12 = .ok (.iload_n 1, 1) := by decide +kernel
theorem d_X6_rankles_13 : decode m_X6_rankles.2.1 13 = .ok (.invokevirtual 139, 3) := by decide +kernel
theorem d_X6_rankles_16 : decode m_X6_rankles.2.1 16 = .ok (.ifCond .le 7, 3) := by decide +kernel
theorem d_X6_rankles_19 : decode m_X6_rankles.2.1 19 = .ok (.iconst 1, 1) := by decide +kernel
theorem d_X6_rankles_20 : decode m_X6_rankles.2.1 20 = .ok (.goto 4, 3) := by decide +kernel
theorem d_X6_rankles_23 : decode m_X6_rankles.2.1 23 = .ok (.iconst 0, 1) := by decide +kernel
theorem d_X6_rankles_24 : decode m_X6_rankles.2.1 24 = .ok (.ireturn, 1) := by decide +kernel
theorem d_X6_whoRankle_0 : decode m_X6_whoRankle.2.1 0 = .ok (.iconst 0, 1) := by decide +kernel
theorem d_X6_whoRankle_1 : decode m_X6_whoRankle.2.1 1 = .ok (.istore_n 1, 1) := by decide +kernel
theorem d_X6_whoRankle_2 : decode m_X6_whoRankle.2.1 2 = .ok (.iconst 0, 1) := by decide +kernel
theorem d_X6_whoRankle_3 : decode m_X6_whoRankle.2.1 3 = .ok (.istore_n 2, 1) := by decide +kernel
theorem d_X6_whoRankle_4 : decode m_X6_whoRankle.2.1 4 = .ok (.iload_n 2, 1) := by decide +kernel
theorem d_X6_whoRankle_5 : decode m_X6_whoRankle.2.1 5 = .ok (.aload_n 0, 1) := by decide +kernel
theorem d_X6_whoRankle_6 : decode m_X6_whoRankle.2.1 6 = .ok (.getfield 62, 3) := by decide +kernel
theorem d_X6_whoRankle_9 : decode m_X6_whoRankle.2.1 9 = .ok (.if_icmp .ge 27, 3) := by decide +kernel
theorem d_X6_whoRankle_12 : decode m_X6_whoRankle.2.1 12 = .ok (.iload_n 1, 1) := by decide +kernel
theorem d_X6_whoRankle_13 : decode m_X6_whoRankle.2.1 13 = .ok (.aload_n 0, 1) := by decide +kernel
theorem d_X6_whoRankle_14 : decode m_X6_whoRankle.2.1 14 = .ok (.iload_n 2, 1) := by decide +kernel
theorem d_X6_whoRankle_15 : decode m_X6_whoRankle.2.1 15 = .ok (.invokevirtual 142, 3) := by decide +kernel
theorem d_X6_whoRankle_18 : decode m_X6_whoRankle.2.1 18 = .ok (.ifCond .eq 9, 3) := by decide +kernel
theorem d_X6_whoRankle_21 : decode m_X6_whoRankle.2.1 21 = .ok (.iconst 1, 1) := by decide +kernel
theorem d_X6_whoRankle_22 : decode m_X6_whoRankle.2.1 22 = .ok (.iload_n 2, 1) := by decide +kernel
theorem d_X6_whoRankle_23 : decode m_X6_whoRankle.2.1 23 = .ok (.ishl, 1) := by decide +kernel
theorem d_X6_whoRankle_24 : decode m_X6_whoRankle.2.1 24 = .ok (.goto 4, 3) := by decide +kernel
theorem d_X6_whoRankle_27 : decode m_X6_whoRankle.2.1 27 = .ok (.iconst 0, 1) := by decide +kernel
theorem d_X6_whoRankle_28 : decode m_X6_whoRankle.2.1 28 = .ok (.ior, 1) := by decide +kernel
theorem d_X6_whoRankle_29 : decode m_X6_whoRankle.2.1 29 = .ok (.istore_n 1, 1) := by decide +kernel
theorem d_X6_whoRankle_30 : decode m_X6_whoRankle.2.1 30 = .ok (.iinc 2 1, 3) := by decide +kernel
theorem d_X6_whoRankle_33 : decode m_X6_whoRankle.2.1 33 = .ok (.goto (-29), 3) := by decide +kernel
theorem d_X6_whoRankle_36 : decode m_X6_whoRankle.2.1 36 = .ok (.iload_n 1, 1) := by decide +kernel
theorem d_X6_whoRankle_37 : decode m_X6_whoRankle.2.1 37 = .ok (.ireturn, 1) := by decide +kernel
theorem d_X6_voiceNow_0 : decode m_X6_voiceNow.2.1 0 = .ok (.iconst 0, 1) := by decide +kernel
theorem d_X6_voiceNow_1 : decode m_X6_voiceNow.2.1 1 = .ok (.istore_n 1, 1) := by decide +kernel
theorem d_X6_voiceNow_2 : decode m_X6_voiceNow.2.1 2 = .ok (.iconst 0, 1) := by decide +kernel
theorem d_X6_voiceNow_3 : decode m_X6_voiceNow.2.1 3 = .ok (.istore_n 2, 1) := by decide +kernel
theorem d_X6_voiceNow_4 : decode m_X6_voiceNow.2.1 4 = .ok (.iload_n 2, 1) := by decide +kernel
theorem d_X6_voiceNow_5 : decode m_X6_voiceNow.2.1 5 = .ok (.aload_n 0, 1) := by decide +kernel
theorem d_X6_voiceNow_6 : decode m_X6_voiceNow.2.1 6 = .ok (.getfield 62, 3) := by decide +kernel
theorem d_X6_voiceNow_9 : decode m_X6_voiceNow.2.1 9 = .ok (.if_icmp .ge 29, 3) := by decide +kernel
theorem d_X6_voiceNow_12 : decode m_X6_voiceNow.2.1 12 = .ok (.iload_n 1, 1) := by decide +kernel
theorem d_X6_voiceNow_13 : decode m_X6_voiceNow.2.1 13 = .ok (.aload_n 0, 1) := by decide +kernel
theorem d_X6_voiceNow_14 : decode m_X6_voiceNow.2.1 14 = .ok (.iload_n 2, 1) := by decide +kernel
theorem d_X6_voiceNow_15 : decode m_X6_voiceNow.2.1 15 = .ok (.invokevirtual 142, 3) := by decide +kernel
theorem d_X6_voiceNow_18 : decode m_X6_voiceNow.2.1 18 = .ok (.ifCond .eq 11, 3) := by decide +kernel
theorem d_X6_voiceNow_21 : decode m_X6_voiceNow.2.1 21 = .ok (.aload_n 0, 1) := by decide +kernel
theorem d_X6_voiceNow_22 : decode m_X6_voiceNow.2.1 22 = .ok (.iload_n 2, 1) := by decide +kernel
theorem d_X6_voiceNow_23 : decode m_X6_voiceNow.2.1 23 = .ok (.invokevirtual 139, 3) := by decide +kernel
theorem d_X6_voiceNow_26 : decode m_X6_voiceNow.2.1 26 = .ok (.goto 4, 3) := by decide +kernel
theorem d_X6_voiceNow_29 : decode m_X6_voiceNow.2.1 29 = .ok (.iconst 0, 1) := by decide +kernel
theorem d_X6_voiceNow_30 : decode m_X6_voiceNow.2.1 30 = .ok (.iadd, 1) := by decide +kernel
theorem d_X6_voiceNow_31 : decode m_X6_voiceNow.2.1 31 = .ok (.istore_n 1, 1) := by decide +kernel
theorem d_X6_voiceNow_32 : decode m_X6_voiceNow.2.1 32 = .ok (.iinc 2 1, 3) := by decide +kernel
theorem d_X6_voiceNow_35 : decode m_X6_voiceNow.2.1 35 = .ok (.goto (-31), 3) := by decide +kernel
theorem d_X6_voiceNow_38 : decode m_X6_voiceNow.2.1 38 = .ok (.iconst 0, 1) := by decide +kernel
theorem d_X6_voiceNow_39 : decode m_X6_voiceNow.2.1 39 = .ok (.istore_n 2, 1) := by decide +kernel
theorem d_X6_voiceNow_40 : decode m_X6_voiceNow.2.1 40 = .ok (.iload_n 2, 1) := by decide +kernel
theorem d_X6_voiceNow_41 : decode m_X6_voiceNow.2.1 41 = .ok (.aload_n 0, 1) := by decide +kernel
theorem d_X6_voiceNow_42 : decode m_X6_voiceNow.2.1 42 = .ok (.getfield 65, 3) := by decide +kernel
theorem d_X6_voiceNow_45 : decode m_X6_voiceNow.2.1 45 = .ok (.if_icmp .ge 33, 3) := by decide +kernel
theorem d_X6_voiceNow_48 : decode m_X6_voiceNow.2.1 48 = .ok (.iload_n 1, 1) := by decide +kernel
theorem d_X6_voiceNow_49 : decode m_X6_voiceNow.2.1 49 = .ok (.aload_n 0, 1) := by decide +kernel
theorem d_X6_voiceNow_50 : decode m_X6_voiceNow.2.1 50 = .ok (.getfield 107, 3) := by decide +kernel
theorem d_X6_voiceNow_53 : decode m_X6_voiceNow.2.1 53 = .ok (.iload_n 2, 1) := by decide +kernel
theorem d_X6_voiceNow_54 : decode m_X6_voiceNow.2.1 54 = .ok (.invokestatic 136, 3) := by decide +kernel
theorem d_X6_voiceNow_57 : decode m_X6_voiceNow.2.1 57 = .ok (.ifCond .eq 7, 3) := by decide +kernel
theorem d_X6_voiceNow_60 : decode m_X6_voiceNow.2.1 60 = .ok (.iconst 0, 1) := by decide +kernel
theorem d_X6_voiceNow_61 : decode m_X6_voiceNow.2.1 61 = .ok (.goto 9, 3) := by decide +kernel
theorem d_X6_voiceNow_64 : decode m_X6_voiceNow.2.1 64 = .ok (.aload_n 0, 1) := by decide +kernel
theorem d_X6_voiceNow_65 : decode m_X6_voiceNow.2.1 65 = .ok (.getfield 31, 3) := by decide +kernel
theorem d_X6_voiceNow_68 : decode m_X6_voiceNow.2.1 68 = .ok (.iload_n 2, 1) := by decide +kernel
theorem d_X6_voiceNow_69 : decode m_X6_voiceNow.2.1 69 = .ok (.iaload, 1) := by decide +kernel
theorem d_X6_voiceNow_70 : decode m_X6_voiceNow.2.1 70 = .ok (.iadd, 1) := by decide +kernel
theorem d_X6_voiceNow_71 : decode m_X6_voiceNow.2.1 71 = .ok (.istore_n 1, 1) := by decide +kernel
theorem d_X6_voiceNow_72 : decode m_X6_voiceNow.2.1 72 = .ok (.iinc 2 1, 3) := by decide +kernel
theorem d_X6_voiceNow_75 : decode m_X6_voiceNow.2.1 75 = .ok (.goto (-35), 3) := by decide +kernel
theorem d_X6_voiceNow_78 : decode m_X6_voiceNow.2.1 78 = .ok (.iload_n 1, 1) := by decide +kernel
theorem d_X6_voiceNow_79 : decode m_X6_voiceNow.2.1 79 = .ok (.ireturn, 1) := by decide +kernel
theorem d_X6_ofHouse_0 : decode m_X6_ofHouse.2.1 0 = .ok (.aload_n 0, 1) := by decide +kernel
theorem d_X6_ofHouse_1 : decode m_X6_ofHouse.2.1 1 = .ok (.iload_n 1, 1) := by decide +kernel
theorem d_X6_ofHouse_2 : decode m_X6_ofHouse.2.1 2 = .ok (.invokevirtual 145, 3) := by decide +kernel
theorem d_X6_ofHouse_5 : decode m_X6_ofHouse.2.1 5 = .ok (.ifCond .ne 5, 3) := by decide +kernel
theorem d_X6_ofHouse_8 : decode m_X6_ofHouse.2.1 8 = .ok (.iconst (-1), 1) := by decide +kernel
theorem d_X6_ofHouse_9 : decode m_X6_ofHouse.2.1 9 = .ok (.ireturn, 1) := by decide +kernel
theorem d_X6_ofHouse_10 : decode m_X6_ofHouse.2.1 10 = .ok (.iload_n 2, 1) := by decide +kernel
theorem d_X6_ofHouse_11 : decode m_X6_ofHouse.2.1 11 = .ok (.tableswitch 98 0 6 #[41, 48, 55, 62, 68, 77, 91], 41) := by decide +kernel
theorem d_X6_ofHouse_52 : decode m_X6_ofHouse.2.1 52 = .ok (.aload_n 0, 1) := by decide +kernel
theorem d_X6_ofHouse_53 : decode m_X6_ofHouse.2.1 53 = .ok (.getfield 19, 3) := by decide +kernel
theorem d_X6_ofHouse_56 : decode m_X6_ofHouse.2.1 56 = .ok (.iload_n 1, 1) := by decide +kernel
theorem d_X6_ofHouse_57 : decode m_X6_ofHouse.2.1 57 = .ok (.iaload, 1) := by decide +kernel
theorem d_X6_ofHouse_58 : decode m_X6_ofHouse.2.1 58 = .ok (.ireturn, 1) := by decide +kernel
theorem d_X6_ofHouse_59 : decode m_X6_ofHouse.2.1 59 = .ok (.aload_n 0, 1) := by decide +kernel
theorem d_X6_ofHouse_60 : decode m_X6_ofHouse.2.1 60 = .ok (.getfield 22, 3) := by decide +kernel
theorem d_X6_ofHouse_63 : decode m_X6_ofHouse.2.1 63 = .ok (.iload_n 1, 1) := by decide +kernel
theorem d_X6_ofHouse_64 : decode m_X6_ofHouse.2.1 64 = .ok (.iaload, 1) := by decide +kernel
theorem d_X6_ofHouse_65 : decode m_X6_ofHouse.2.1 65 = .ok (.ireturn, 1) := by decide +kernel
theorem d_X6_ofHouse_66 : decode m_X6_ofHouse.2.1 66 = .ok (.aload_n 0, 1) := by decide +kernel
theorem d_X6_ofHouse_67 : decode m_X6_ofHouse.2.1 67 = .ok (.getfield 25, 3) := by decide +kernel
theorem d_X6_ofHouse_70 : decode m_X6_ofHouse.2.1 70 = .ok (.iload_n 1, 1) := by decide +kernel
theorem d_X6_ofHouse_71 : decode m_X6_ofHouse.2.1 71 = .ok (.iaload, 1) := by decide +kernel
theorem d_X6_ofHouse_72 : decode m_X6_ofHouse.2.1 72 = .ok (.ireturn, 1) := by decide +kernel
theorem d_X6_ofHouse_73 : decode m_X6_ofHouse.2.1 73 = .ok (.aload_n 0, 1) := by decide +kernel
theorem d_X6_ofHouse_74 : decode m_X6_ofHouse.2.1 74 = .ok (.iload_n 1, 1) := by decide +kernel
theorem d_X6_ofHouse_75 : decode m_X6_ofHouse.2.1 75 = .ok (.invokevirtual 139, 3) := by decide +kernel
theorem d_X6_ofHouse_78 : decode m_X6_ofHouse.2.1 78 = .ok (.ireturn, 1) := by decide +kernel
theorem d_X6_ofHouse_79 : decode m_X6_ofHouse.2.1 79 = .ok (.aload_n 0, 1) := by decide +kernel
theorem d_X6_ofHouse_80 : decode m_X6_ofHouse.2.1 80 = .ok (.getfield 104, 3) := by decide +kernel
theorem d_X6_ofHouse_83 : decode m_X6_ofHouse.2.1 83 = .ok (.iload_n 1, 1) := by decide +kernel
theorem d_X6_ofHouse_84 : decode m_X6_ofHouse.2.1 84 = .ok (.ishr, 1) := by decide +kernel
theorem d_X6_ofHouse_85 : decode m_X6_ofHouse.2.1 85 = .ok (.iconst 1, 1) := by decide +kernel
theorem d_X6_ofHouse_86 : decode m_X6_ofHouse.2.1 86 = .ok (.iand, 1) := by decide +kernel
theorem d_X6_ofHouse_87 : decode m_X6_ofHouse.2.1 87 = .ok (.ireturn, 1) := by decide +kernel
theorem d_X6_ofHouse_88 : decode m_X6_ofHouse.2.1 88 = .ok (.aload_n 0, 1) := by decide +kernel
theorem d_X6_ofHouse_89 : decode m_X6_ofHouse.2.1 89 = .ok (.iload_n 1, 1) := by decide +kernel
theorem d_X6_ofHouse_90 : decode m_X6_ofHouse.2.1 90 = .ok (.invokevirtual 142, 3) := by decide +kernel
theorem d_X6_ofHouse_93 : decode m_X6_ofHouse.2.1 93 = .ok (.ifCond .eq 7, 3) := by decide +kernel
theorem d_X6_ofHouse_96 : decode m_X6_ofHouse.2.1 96 = .ok (.iconst 1, 1) := by decide +kernel
theorem d_X6_ofHouse_97 : decode m_X6_ofHouse.2.1 97 = .ok (.goto 4, 3) := by decide +kernel
theorem d_X6_ofHouse_100 : decode m_X6_ofHouse.2.1 100 = .ok (.iconst 0, 1) := by decide +kernel
theorem d_X6_ofHouse_101 : decode m_X6_ofHouse.2.1 101 = .ok (.ireturn, 1) := by decide +kernel
theorem d_X6_ofHouse_102 : decode m_X6_ofHouse.2.1 102 = .ok (.aload_n 0, 1) := by decide +kernel
theorem d_X6_ofHouse_103 : decode m_X6_ofHouse.2.1 103 = .ok (.getfield 28, 3) := by decide +kernel
theorem d_X6_ofHouse_106 : decode m_X6_ofHouse.2.1 106 = .ok (.iload_n 1, 1) := by decide +kernel
theorem d_X6_ofHouse_107 : decode m_X6_ofHouse.2.1 107 = .ok (.iaload, 1) := by decide +kernel
theorem d_X6_ofHouse_108 : decode m_X6_ofHouse.2.1 108 = .ok (.ireturn, 1) := by decide +kernel
theorem d_X6_ofHouse_109 : decode m_X6_ofHouse.2.1 109 = .ok (.bipush (-2), 2) := by decide +kernel
theorem d_X6_ofHouse_111 : decode m_X6_ofHouse.2.1 111 = .ok (.ireturn, 1) := by decide +kernel
theorem d_X6_ofStone_0 : decode m_X6_ofStone.2.1 0 = .ok (.aload_n 0, 1) := by decide +kernel
theorem d_X6_ofStone_1 : decode m_X6_ofStone.2.1 1 = .ok (.iload_n 1, 1) := by decide +kernel
theorem d_X6_ofStone_2 : decode m_X6_ofStone.2.1 2 = .ok (.invokevirtual 148, 3) := by decide +kernel
theorem d_X6_ofStone_5 : decode m_X6_ofStone.2.1 5 = .ok (.ifCond .ne 5, 3) := by decide +kernel
theorem d_X6_ofStone_8 : decode m_X6_ofStone.2.1 8 = .ok (.iconst (-1), 1) := by decide +kernel
theorem d_X6_ofStone_9 : decode m_X6_ofStone.2.1 9 = .ok (.ireturn, 1) := by decide +kernel
theorem d_X6_ofStone_10 : decode m_X6_ofStone.2.1 10 = .ok (.iload_n 2, 1) := by decide +kernel
theorem d_X6_ofStone_11 : decode m_X6_ofStone.2.1 11 = .ok (.ifCond .ne 12, 3) := by decide +kernel
theorem d_X6_ofStone_14 : decode m_X6_ofStone.2.1 14 = .ok (.aload_n 0, 1) := by decide +kernel
theorem d_X6_ofStone_15 : decode m_X6_ofStone.2.1 15 = .ok (.getfield 31, 3) := by decide +kernel
theorem d_X6_ofStone_18 : decode m_X6_ofStone.2.1 18 = .ok (.iload_n 1, 1) := by decide +kernel
theorem d_X6_ofStone_19 : decode m_X6_ofStone.2.1 19 = .ok (.iaload, 1) := by decide +kernel
theorem d_X6_ofStone_20 : decode m_X6_ofStone.2.1 20 = .ok (.goto 21, 3) := by decide +kernel
theorem d_X6_ofStone_23 : decode m_X6_ofStone.2.1 23 = .ok (.iload_n 2, 1) := by decide +kernel
theorem d_X6_ofStone_24 : decode m_X6_ofStone.2.1 24 = .ok (.iconst 1, 1) := by decide +kernel
theorem d_X6_ofStone_25 : decode m_X6_ofStone.2.1 25 = .ok (.if_icmp .ne 14, 3) := by decide +kernel
theorem d_X6_ofStone_28 : decode m_X6_ofStone.2.1 28 = .ok (.aload_n 0, 1) := by decide +kernel
theorem d_X6_ofStone_29 : decode m_X6_ofStone.2.1 29 = .ok (.getfield 107, 3) := by decide +kernel
theorem d_X6_ofStone_32 : decode m_X6_ofStone.2.1 32 = .ok (.iload_n 1, 1) := by decide +kernel
theorem d_X6_ofStone_33 : decode m_X6_ofStone.2.1 33 = .ok (.ishr, 1) := by decide +kernel
theorem d_X6_ofStone_34 : decode m_X6_ofStone.2.1 34 = .ok (.iconst 1, 1) := by decide +kernel
theorem d_X6_ofStone_35 : decode m_X6_ofStone.2.1 35 = .ok (.iand, 1) := by decide +kernel
theorem d_X6_ofStone_36 : decode m_X6_ofStone.2.1 36 = .ok (.goto 5, 3) := by decide +kernel
theorem d_X6_ofStone_39 : decode m_X6_ofStone.2.1 39 = .ok (.bipush (-2), 2) := by decide +kernel
theorem d_X6_ofStone_41 : decode m_X6_ofStone.2.1 41 = .ok (.ireturn, 1) := by decide +kernel
theorem d_X6_sleep_0 : decode m_X6_sleep.2.1 0 = .ok (.aload_n 0, 1) := by decide +kernel
theorem d_X6_sleep_1 : decode m_X6_sleep.2.1 1 = .ok (.iload_n 1, 1) := by decide +kernel
theorem d_X6_sleep_2 : decode m_X6_sleep.2.1 2 = .ok (.invokevirtual 145, 3) := by decide +kernel
theorem d_X6_sleep_5 : decode m_X6_sleep.2.1 5 = .ok (.ifCond .ne 5, 3) := by decide +kernel
theorem d_X6_sleep_8 : decode m_X6_sleep.2.1 8 = .ok (.iconst (-1), 1) := by decide +kernel
theorem d_X6_sleep_9 : decode m_X6_sleep.2.1 9 = .ok (.ireturn, 1) := by decide +kernel
theorem d_X6_sleep_10 : decode m_X6_sleep.2.1 10 = .ok (.iload_n 2, 1) := by decide +kernel
theorem d_X6_sleep_11 : decode m_X6_sleep.2.1 11 = .ok (.iconst 0, 1) := by decide +kernel
theorem d_X6_sleep_12 : decode m_X6_sleep.2.1 12 = .ok (.bipush 9, 2) := by decide +kernel
theorem d_X6_sleep_14 : decode m_X6_sleep.2.1 14 = .ok (.invokestatic 58, 3) := by decide +kernel
theorem d_X6_sleep_17 : decode m_X6_sleep.2.1 17 = .ok (.ifCond .ne 6, 3) := by decide +kernel
theorem d_X6_sleep_20 : decode m_X6_sleep.2.1 20 = .ok (.bipush (-2), 2) := by decide +kernel
theorem d_X6_sleep_22 : decode m_X6_sleep.2.1 22 = .ok (.ireturn, 1) := by decide +kernel
theorem d_X6_sleep_23 : decode m_X6_sleep.2.1 23 = .ok (.aload_n 0, 1) := by decide +kernel
theorem d_X6_sleep_24 : decode m_X6_sleep.2.1 24 = .ok (.getfield 25, 3) := by decide +kernel
theorem d_X6_sleep_27 : decode m_X6_sleep.2.1 27 = .ok (.iload_n 1, 1) := by decide +kernel
theorem d_X6_sleep_28 : decode m_X6_sleep.2.1 28 = .ok (.iaload, 1) := by decide +kernel
theorem d_X6_sleep_29 : decode m_X6_sleep.2.1 29 = .ok (.istore_n 3, 1) := by decide +kernel
theorem d_X6_sleep_30 : decode m_X6_sleep.2.1 30 = .ok (.aload_n 0, 1) := by decide +kernel
theorem d_X6_sleep_31 : decode m_X6_sleep.2.1 31 = .ok (.getfield 25, 3) := by decide +kernel
theorem d_X6_sleep_34 : decode m_X6_sleep.2.1 34 = .ok (.iload_n 1, 1) := by decide +kernel
theorem d_X6_sleep_35 : decode m_X6_sleep.2.1 35 = .ok (.iload_n 2, 1) := by decide +kernel
theorem d_X6_sleep_36 : decode m_X6_sleep.2.1 36 = .ok (.iastore, 1) := by decide +kernel
theorem d_X6_sleep_37 : decode m_X6_sleep.2.1 37 = .ok (.iload_n 3, 1) := by decide +kernel
theorem d_X6_sleep_38 : decode m_X6_sleep.2.1 38 = .ok (.ireturn, 1) := by decide +kernel
theorem d_X6_owns_0 : decode m_X6_owns.2.1 0 = .ok (.aload_n 0, 1) := by decide +kernel
theorem d_X6_owns_1 : decode m_X6_owns.2.1 1 = .ok (.iload_n 1, 1) := by decide +kernel
theorem d_X6_owns_2 : decode m_X6_owns.2.1 2 = .ok (.invokevirtual 142, 3) := by decide +kernel
theorem d_X6_owns_5 : decode m_X6_owns.2.1 5 = .ok (.ifCond .eq 17, 3) := by decide +kernel
theorem d_X6_owns_8 : decode m_X6_owns.2.1 8 = .ok (.aload_n 0, 1) := by decide +kernel
theorem d_X6_owns_9 : decode m_X6_owns.2.1 9 = .ok (.dup, 1) := by decide +kernel
theorem d_X6_owns_10 : decode m_X6_owns.2.1 10 = .ok (.getfield 104, 3) := by decide +kernel
theorem d_X6_owns_13 : decode m_X6_owns.2.1 13 = .ok (.iconst 1, 1) := by decide +kernel
theorem d_X6_owns_14 : decode m_X6_owns.2.1 14 = .ok (.iload_n 1, 1) := by decide +kernel
theorem d_X6_owns_15 : decode m_X6_owns.2.1 15 = .ok (.ishl, 1) := by decide +kernel
theorem d_X6_owns_16 : decode m_X6_owns.2.1 16 = .ok (.ior, 1) := by decide +kernel
theorem d_X6_owns_17 : decode m_X6_owns.2.1 17 = .ok (.putfield 104, 3) := by decide +kernel
theorem d_X6_owns_20 : decode m_X6_owns.2.1 20 = .ok (.iconst 1, 1) := by decide +kernel
theorem d_X6_owns_21 : decode m_X6_owns.2.1 21 = .ok (.ireturn, 1) := by decide +kernel
theorem d_X6_owns_22 : decode m_X6_owns.2.1 22 = .ok (.aload_n 0, 1) := by decide +kernel
theorem d_X6_owns_23 : decode m_X6_owns.2.1 23 = .ok (.getfield 28, 3) := by decide +kernel
theorem d_X6_owns_26 : decode m_X6_owns.2.1 26 = .ok (.iload_n 1, 1) := by decide +kernel
theorem d_X6_owns_27 : decode m_X6_owns.2.1 27 = .ok (.dup2, 1) := by decide +kernel
theorem d_X6_owns_28 : decode m_X6_owns.2.1 28 = .ok (.iaload, 1) := by decide +kernel
theorem d_X6_owns_29 : decode m_X6_owns.2.1 29 = .ok (.iconst 1, 1) := by decide +kernel
theorem d_X6_owns_30 : decode m_X6_owns.2.1 30 = .ok (.iadd, 1) := by decide +kernel
theorem d_X6_owns_31 : decode m_X6_owns.2.1 31 = .ok (.iastore, 1) := by decide +kernel
theorem d_X6_owns_32 : decode m_X6_owns.2.1 32 = .ok (.aload_n 0, 1) := by decide +kernel
theorem d_X6_owns_33 : decode m_X6_owns.2.1 33 = .ok (.dup, 1) := by decide +kernel
theorem d_X6_owns_34 : decode m_X6_owns.2.1 34 = .ok (.getfield 116, 3) := by decide +kernel
theorem d_X6_owns_37 : decode m_X6_owns.2.1 37 = .ok (.iconst 1, 1) := by decide +kernel
theorem d_X6_owns_38 : decode m_X6_owns.2.1 38 = .ok (.iadd, 1) := by decide +kernel
theorem d_X6_owns_39 : decode m_X6_owns.2.1 39 = .ok (.putfield 116, 3) := by decide +kernel
theorem d_X6_owns_42 : decode m_X6_owns.2.1 42 = .ok (.iconst 0, 1) := by decide +kernel
theorem d_X6_owns_43 : decode m_X6_owns.2.1 43 = .ok (.ireturn, 1) := by decide +kernel
theorem d_X6_layGreatest_0 : decode m_X6_layGreatest.2.1 0 = .ok (.bipush (-9), 2) := by decide +kernel
theorem d_X6_layGreatest_2 : decode m_X6_layGreatest.2.1 2 = .ok (.istore_n 1, 1) := by decide +kernel
theorem d_X6_layGreatest_3 : decode m_X6_layGreatest.2.1 3 = .ok (.iconst 0, 1) := by decide +kernel
theorem d_X6_layGreatest_4 : decode m_X6_layGreatest.2.1 4 = .ok (.istore_n 2, 1) := by decide +kernel
theorem d_X6_layGreatest_5 : decode m_X6_layGreatest.2.1 5 = .ok (.iload_n 2, 1) := by decide +kernel
theorem d_X6_layGreatest_6 : decode m_X6_layGreatest.2.1 6 = .ok (.aload_n 0, 1) := by decide +kernel
theorem d_X6_layGreatest_7 : decode m_X6_layGreatest.2.1 7 = .ok (.getfield 65, 3) := by decide +kernel
theorem d_X6_layGreatest_10 : decode m_X6_layGreatest.2.1 10 = .ok (.if_icmp .ge 47, 3) := by decide +kernel
theorem d_X6_layGreatest_13 : decode m_X6_layGreatest.2.1 13 = .ok (.aload_n 0, 1) := by decide +kernel
theorem d_X6_layGreatest_14 : decode m_X6_layGreatest.2.1 14 = .ok (.getfield 107, 3) := by decide +kernel
theorem d_X6_layGreatest_17 : decode m_X6_layGreatest.2.1 17 = .ok (.iload_n 2, 1) := by decide +kernel
theorem d_X6_layGreatest_18 : decode m_X6_layGreatest.2.1 18 = .ok (.invokestatic 136, 3) := by decide +kernel
theorem d_X6_layGreatest_21 : decode m_X6_layGreatest.2.1 21 = .ok (.ifCond .ne 28, 3) := by decide +kernel
theorem d_X6_layGreatest_24 : decode m_X6_layGreatest.2.1 24 = .ok (.iload_n 1, 1) := by decide +kernel
theorem d_X6_layGreatest_25 : decode m_X6_layGreatest.2.1 25 = .ok (.bipush (-9), 2) := by decide +kernel
theorem d_X6_layGreatest_27 : decode m_X6_layGreatest.2.1 27 = .ok (.if_icmp .eq 18, 3) := by decide +kernel
theorem d_X6_layGreatest_30 : decode m_X6_layGreatest.2.1 30 = .ok (.aload_n 0, 1) := by decide +kernel
theorem d_X6_layGreatest_31 : decode m_X6_layGreatest.2.1 31 = .ok (.getfield 31, 3) := by decide +kernel
theorem d_X6_layGreatest_34 : decode m_X6_layGreatest.2.1 34 = .ok (.iload_n 2, 1) := by decide +kernel
theorem d_X6_layGreatest_35 : decode m_X6_layGreatest.2.1 35 = .ok (.iaload, 1) := by decide +kernel
theorem d_X6_layGreatest_36 : decode m_X6_layGreatest.2.1 36 = .ok (.aload_n 0, 1) := by decide +kernel
theorem d_X6_layGreatest_37 : decode m_X6_layGreatest.2.1 37 = .ok (.getfield 31, 3) := by decide +kernel
theorem d_X6_layGreatest_40 : decode m_X6_layGreatest.2.1 40 = .ok (.iload_n 1, 1) := by decide +kernel
theorem d_X6_layGreatest_41 : decode m_X6_layGreatest.2.1 41 = .ok (.iaload, 1) := by decide +kernel
theorem d_X6_layGreatest_42 : decode m_X6_layGreatest.2.1 42 = .ok (.if_icmp .le 7, 3) := by decide +kernel
theorem d_X6_layGreatest_45 : decode m_X6_layGreatest.2.1 45 = .ok (.iload_n 2, 1) := by decide +kernel
theorem d_X6_layGreatest_46 : decode m_X6_layGreatest.2.1 46 = .ok (.goto 4, 3) := by decide +kernel
theorem d_X6_layGreatest_49 : decode m_X6_layGreatest.2.1 49 = .ok (.iload_n 1, 1) := by decide +kernel
theorem d_X6_layGreatest_50 : decode m_X6_layGreatest.2.1 50 = .ok (.istore_n 1, 1) := by decide +kernel
theorem d_X6_layGreatest_51 : decode m_X6_layGreatest.2.1 51 = .ok (.iinc 2 1, 3) := by decide +kernel
theorem d_X6_layGreatest_54 : decode m_X6_layGreatest.2.1 54 = .ok (.goto (-49), 3) := by decide +kernel
theorem d_X6_layGreatest_57 : decode m_X6_layGreatest.2.1 57 = .ok (.aload_n 0, 1) := by decide +kernel
theorem d_X6_layGreatest_58 : decode m_X6_layGreatest.2.1 58 = .ok (.dup, 1) := by decide +kernel
theorem d_X6_layGreatest_59 : decode m_X6_layGreatest.2.1 59 = .ok (.getfield 107, 3) := by decide +kernel
theorem d_X6_layGreatest_62 : decode m_X6_layGreatest.2.1 62 = .ok (.iload_n 1, 1) := by decide +kernel
theorem d_X6_layGreatest_63 : decode m_X6_layGreatest.2.1 63 = .ok (.bipush (-9), 2) := by decide +kernel
theorem d_X6_layGreatest_65 : decode m_X6_layGreatest.2.1 65 = .ok (.if_icmp .ne 7, 3) := by decide +kernel
theorem d_X6_layGreatest_68 : decode m_X6_layGreatest.2.1 68 = .ok (.iconst 0, 1) := by decide +kernel
theorem d_X6_layGreatest_69 : decode m_X6_layGreatest.2.1 69 = .ok (.goto 6, 3) := by decide +kernel
theorem d_X6_layGreatest_72 : decode m_X6_layGreatest.2.1 72 = .ok (.iconst 1, 1) := by decide +kernel
theorem d_X6_layGreatest_73 : decode m_X6_layGreatest.2.1 73 = .ok (.iload_n 1, 1) := by decide +kernel
theorem d_X6_layGreatest_74 : decode m_X6_layGreatest.2.1 74 = .ok (.ishl, 1) := by decide +kernel
theorem d_X6_layGreatest_75 : decode m_X6_layGreatest.2.1 75 = .ok (.ior, 1) := by decide +kernel
theorem d_X6_layGreatest_76 : decode m_X6_layGreatest.2.1 76 = .ok (.putfield 107, 3) := by decide +kernel
theorem d_X6_layGreatest_79 : decode m_X6_layGreatest.2.1 79 = .ok (.return_, 1) := by decide +kernel
theorem d_X6_goesNight_0 : decode m_X6_goesNight.2.1 0 = .ok (.aload_n 0, 1) := by decide +kernel
theorem d_X6_goesNight_1 : decode m_X6_goesNight.2.1 1 = .ok (.dup, 1) := by decide +kernel
theorem d_X6_goesNight_2 : decode m_X6_goesNight.2.1 2 = .ok (.getfield 113, 3) := by decide +kernel
theorem d_X6_goesNight_5 : decode m_X6_goesNight.2.1 5 = .ok (.iconst 1, 1) := by decide +kernel
theorem d_X6_goesNight_6 : decode m_X6_goesNight.2.1 6 = .ok (.iadd, 1) := by decide +kernel
theorem d_X6_goesNight_7 : decode m_X6_goesNight.2.1 7 = .ok (.putfield 113, 3) := by decide +kernel
theorem d_X6_goesNight_10 : decode m_X6_goesNight.2.1 10 = .ok (.aload_n 0, 1) := by decide +kernel
theorem d_X6_goesNight_11 : decode m_X6_goesNight.2.1 11 = .ok (.invokevirtual 151, 3) := by decide +kernel
theorem d_X6_goesNight_14 : decode m_X6_goesNight.2.1 14 = .ok (.ifCond .ne 4, 3) := by decide +kernel
theorem d_X6_goesNight_17 : decode m_X6_goesNight.2.1 17 = .ok (.return_, 1) := by decide +kernel
theorem d_X6_goesNight_18 : decode m_X6_goesNight.2.1 18 = .ok (.iconst 0, 1) := by decide +kernel
theorem d_X6_goesNight_19 : decode m_X6_goesNight.2.1 19 = .ok (.istore_n 1, 1) := by decide +kernel
theorem d_X6_goesNight_20 : decode m_X6_goesNight.2.1 20 = .ok (.iload_n 1, 1) := by decide +kernel
theorem d_X6_goesNight_21 : decode m_X6_goesNight.2.1 21 = .ok (.aload_n 0, 1) := by decide +kernel
theorem d_X6_goesNight_22 : decode m_X6_goesNight.2.1 22 = .ok (.getfield 62, 3) := by decide +kernel
theorem d_X6_goesNight_25 : decode m_X6_goesNight.2.1 25 = .ok (.if_icmp .ge 32, 3) := by decide +kernel
theorem d_X6_goesNight_28 : decode m_X6_goesNight.2.1 28 = .ok (.aload_n 0, 1) := by decide +kernel
theorem d_X6_goesNight_29 : decode m_X6_goesNight.2.1 29 = .ok (.getfield 25, 3) := by decide +kernel
theorem d_X6_goesNight_32 : decode m_X6_goesNight.2.1 32 = .ok (.iload_n 1, 1) := by decide +kernel
theorem d_X6_goesNight_33 : decode m_X6_goesNight.2.1 33 = .ok (.dup2, 1) := by decide +kernel
theorem d_X6_goesNight_34 : decode m_X6_goesNight.2.1 34 = .ok (.iaload, 1) := by decide +kernel
theorem d_X6_goesNight_35 : decode m_X6_goesNight.2.1 35 = .ok (.aload_n 0, 1) := by decide +kernel
theorem d_X6_goesNight_36 : decode m_X6_goesNight.2.1 36 = .ok (.getfield 25, 3) := by decide +kernel
theorem d_X6_goesNight_39 : decode m_X6_goesNight.2.1 39 = .ok (.iload_n 1, 1) := by decide +kernel
theorem d_X6_goesNight_40 : decode m_X6_goesNight.2.1 40 = .ok (.iaload, 1) := by decide +kernel
theorem d_X6_goesNight_41 : decode m_X6_goesNight.2.1 41 = .ok (.ifCond .le 7, 3) := by decide +kernel
theorem d_X6_goesNight_44 : decode m_X6_goesNight.2.1 44 = .ok (.iconst 1, 1) := by decide +kernel
theorem d_X6_goesNight_45 : decode m_X6_goesNight.2.1 45 = .ok (.goto 4, 3) := by decide +kernel
theorem d_X6_goesNight_48 : decode m_X6_goesNight.2.1 48 = .ok (.iconst 0, 1) := by decide +kernel
theorem d_X6_goesNight_49 : decode m_X6_goesNight.2.1 49 = .ok (.isub, 1) := by decide +kernel
theorem d_X6_goesNight_50 : decode m_X6_goesNight.2.1 50 = .ok (.iastore, 1) := by decide +kernel
theorem d_X6_goesNight_51 : decode m_X6_goesNight.2.1 51 = .ok (.iinc 1 1, 3) := by decide +kernel
theorem d_X6_goesNight_54 : decode m_X6_goesNight.2.1 54 = .ok (.goto (-34), 3) := by decide +kernel
theorem d_X6_goesNight_57 : decode m_X6_goesNight.2.1 57 = .ok (.aload_n 0, 1) := by decide +kernel
theorem d_X6_goesNight_58 : decode m_X6_goesNight.2.1 58 = .ok (.getfield 25, 3) := by decide +kernel
theorem d_X6_goesNight_61 : decode m_X6_goesNight.2.1 61 = .ok (.aload_n 0, 1) := by decide +kernel
theorem d_X6_goesNight_62 : decode m_X6_goesNight.2.1 62 = .ok (.getfield 110, 3) := by decide +kernel
theorem d_X6_goesNight_65 : decode m_X6_goesNight.2.1 65 = .ok (.iaload, 1) := by decide +kernel
theorem d_X6_goesNight_66 : decode m_X6_goesNight.2.1 66 = .ok (.ifCond .ne 12, 3) := by decide +kernel
theorem d_X6_goesNight_69 : decode m_X6_goesNight.2.1 69 = .ok (.aload_n 0, 1) := by decide +kernel
theorem d_X6_goesNight_70 : decode m_X6_goesNight.2.1 70 = .ok (.aload_n 0, 1) := by decide +kernel
theorem d_X6_goesNight_71 : decode m_X6_goesNight.2.1 71 = .ok (.getfield 110, 3) := by decide +kernel
theorem d_X6_goesNight_74 : decode m_X6_goesNight.2.1 74 = .ok (.invokevirtual 155, 3) := by decide +kernel
theorem d_X6_goesNight_77 : decode m_X6_goesNight.2.1 77 = .ok (.pop, 1) := by decide +kernel
theorem d_X6_goesNight_78 : decode m_X6_goesNight.2.1 78 = .ok (.aload_n 0, 1) := by decide +kernel
theorem d_X6_goesNight_79 : decode m_X6_goesNight.2.1 79 = .ok (.invokevirtual 158, 3) := by decide +kernel
theorem d_X6_goesNight_82 : decode m_X6_goesNight.2.1 82 = .ok (.ifCond .ne 7, 3) := by decide +kernel
theorem d_X6_goesNight_85 : decode m_X6_goesNight.2.1 85 = .ok (.aload_n 0, 1) := by decide +kernel
theorem d_X6_goesNight_86 : decode m_X6_goesNight.2.1 86 = .ok (.invokevirtual 161, 3) := by decide +kernel
theorem d_X6_goesNight_89 : decode m_X6_goesNight.2.1 89 = .ok (.aload_n 0, 1) := by decide +kernel
theorem d_X6_goesNight_90 : decode m_X6_goesNight.2.1 90 = .ok (.aload_n 0, 1) := by decide +kernel
theorem d_X6_goesNight_91 : decode m_X6_goesNight.2.1 91 = .ok (.getfield 110, 3) := by decide +kernel
theorem d_X6_goesNight_94 : decode m_X6_goesNight.2.1 94 = .ok (.aload_n 0, 1) := by decide +kernel
theorem d_X6_goesNight_95 : decode m_X6_goesNight.2.1 95 = .ok (.getfield 101, 3) := by decide +kernel
theorem d_X6_goesNight_98 : decode m_X6_goesNight.2.1 98 = .ok (.iadd, 1) := by decide +kernel
theorem d_X6_goesNight_99 : decode m_X6_goesNight.2.1 99 = .ok (.aload_n 0, 1) := by decide +kernel
theorem d_X6_goesNight_100 : decode m_X6_goesNight.2.1 100 = .ok (.getfield 62, 3) := by decide +kernel
theorem d_X6_goesNight_103 : decode m_X6_goesNight.2.1 103 = .ok (.irem, 1) := by decide +kernel
theorem d_X6_goesNight_104 : decode m_X6_goesNight.2.1 104 = .ok (.putfield 110, 3) := by decide +kernel
theorem d_X6_goesNight_107 : decode m_X6_goesNight.2.1 107 = .ok (.return_, 1) := by decide +kernel
theorem d_X6_own_0 : decode m_X6_own.2.1 0 = .ok (.aload_n 0, 1) := by decide +kernel
theorem d_X6_own_1 : decode m_X6_own.2.1 1 = .ok (.iload_n 1, 1) := by decide +kernel
theorem d_X6_own_2 : decode m_X6_own.2.1 2 = .ok (.invokevirtual 145, 3) := by decide +kernel
theorem d_X6_own_5 : decode m_X6_own.2.1 5 = .ok (.ifCond .ne 5, 3) := by decide +kernel
theorem d_X6_own_8 : decode m_X6_own.2.1 8 = .ok (.iconst (-1), 1) := by decide +kernel
theorem d_X6_own_9 : decode m_X6_own.2.1 9 = .ok (.ireturn, 1) := by decide +kernel
theorem d_X6_own_10 : decode m_X6_own.2.1 10 = .ok (.aload_n 0, 1) := by decide +kernel
theorem d_X6_own_11 : decode m_X6_own.2.1 11 = .ok (.iload_n 1, 1) := by decide +kernel
theorem d_X6_own_12 : decode m_X6_own.2.1 12 = .ok (.invokevirtual 155, 3) := by decide +kernel
theorem d_X6_own_15 : decode m_X6_own.2.1 15 = .ok (.ifCond .eq 7, 3) := by decide +kernel
theorem d_X6_own_18 : decode m_X6_own.2.1 18 = .ok (.iconst 1, 1) := by decide +kernel
theorem d_X6_own_19 : decode m_X6_own.2.1 19 = .ok (.goto 4, 3) := by decide +kernel
theorem d_X6_own_22 : decode m_X6_own.2.1 22 = .ok (.iconst 0, 1) := by decide +kernel
theorem d_X6_own_23 : decode m_X6_own.2.1 23 = .ok (.ireturn, 1) := by decide +kernel
theorem d_X6_lay_0 : decode m_X6_lay.2.1 0 = .ok (.aload_n 0, 1) := by decide +kernel
theorem d_X6_lay_1 : decode m_X6_lay.2.1 1 = .ok (.iload_n 1, 1) := by decide +kernel
theorem d_X6_lay_2 : decode m_X6_lay.2.1 2 = .ok (.invokevirtual 148, 3) := by decide +kernel
theorem d_X6_lay_5 : decode m_X6_lay.2.1 5 = .ok (.ifCond .ne 5, 3) := by decide +kernel
theorem d_X6_lay_8 : decode m_X6_lay.2.1 8 = .ok (.iconst (-1), 1) := by decide +kernel
theorem d_X6_lay_9 : decode m_X6_lay.2.1 9 = .ok (.ireturn, 1) := by decide +kernel
theorem d_X6_lay_10 : decode m_X6_lay.2.1 10 = .ok (.aload_n 0, 1) := by decide +kernel
theorem d_X6_lay_11 : decode m_X6_lay.2.1 11 = .ok (.getfield 107, 3) := by decide +kernel
theorem d_X6_lay_14 : decode m_X6_lay.2.1 14 = .ok (.iload_n 1, 1) := by decide +kernel
theorem d_X6_lay_15 : decode m_X6_lay.2.1 15 = .ok (.invokestatic 136, 3) := by decide +kernel
theorem d_X6_lay_18 : decode m_X6_lay.2.1 18 = .ok (.ifCond .eq 6, 3) := by decide +kernel
theorem d_X6_lay_21 : decode m_X6_lay.2.1 21 = .ok (.bipush (-3), 2) := by decide +kernel
theorem d_X6_lay_23 : decode m_X6_lay.2.1 23 = .ok (.ireturn, 1) := by decide +kernel
theorem d_X6_lay_24 : decode m_X6_lay.2.1 24 = .ok (.aload_n 0, 1) := by decide +kernel
theorem d_X6_lay_25 : decode m_X6_lay.2.1 25 = .ok (.dup, 1) := by decide +kernel
theorem d_X6_lay_26 : decode m_X6_lay.2.1 26 = .ok (.getfield 107, 3) := by decide +kernel
theorem d_X6_lay_29 : decode m_X6_lay.2.1 29 = .ok (.iconst 1, 1) := by decide +kernel
theorem d_X6_lay_30 : decode m_X6_lay.2.1 30 = .ok (.iload_n 1, 1) := by decide +kernel
theorem d_X6_lay_31 : decode m_X6_lay.2.1 31 = .ok (.ishl, 1) := by decide +kernel
theorem d_X6_lay_32 : decode m_X6_lay.2.1 32 = .ok (.ior, 1) := by decide +kernel
theorem d_X6_lay_33 : decode m_X6_lay.2.1 33 = .ok (.putfield 107, 3) := by decide +kernel
theorem d_X6_lay_36 : decode m_X6_lay.2.1 36 = .ok (.aload_n 0, 1) := by decide +kernel
theorem d_X6_lay_37 : decode m_X6_lay.2.1 37 = .ok (.invokevirtual 151, 3) := by decide +kernel
theorem d_X6_lay_40 : decode m_X6_lay.2.1 40 = .ok (.ireturn, 1) := by decide +kernel
theorem d_X6_night_0 : decode m_X6_night.2.1 0 = .ok (.iload_n 1, 1) := by decide +kernel
theorem d_X6_night_1 : decode m_X6_night.2.1 1 = .ok (.iconst 1, 1) := by decide +kernel
theorem d_X6_night_2 : decode m_X6_night.2.1 2 = .ok (.bipush 60, 2) := by decide +kernel
theorem d_X6_night_4 : decode m_X6_night.2.1 4 = .ok (.invokestatic 58, 3) := by decide +kernel
theorem d_X6_night_7 : decode m_X6_night.2.1 7 = .ok (.ifCond .ne 6, 3) := by decide +kernel
theorem d_X6_night_10 : decode m_X6_night.2.1 10 = .ok (.bipush (-2), 2) := by decide +kernel
theorem d_X6_night_12 : decode m_X6_night.2.1 12 = .ok (.ireturn, 1) := by decide +kernel
theorem d_X6_night_13 : decode m_X6_night.2.1 13 = .ok (.aload_n 0, 1) := by decide +kernel
theorem d_X6_night_14 : decode m_X6_night.2.1 14 = .ok (.getfield 62, 3) := by decide +kernel
theorem d_X6_night_17 : decode m_X6_night.2.1 17 = .ok (.ifCond .ne 6, 3) := by decide +kernel
theorem d_X6_night_20 : decode m_X6_night.2.1 20 = .ok (.bipush (-3), 2) := by decide +kernel
theorem d_X6_night_22 : decode m_X6_night.2.1 22 = .ok (.ireturn, 1) := by decide +kernel
theorem d_X6_night_23 : decode m_X6_night.2.1 23 = .ok (.iconst 0, 1) := by decide +kernel
theorem d_X6_night_24 : decode m_X6_night.2.1 24 = .ok (.istore_n 2, 1) := by decide +kernel
theorem d_X6_night_25 : decode m_X6_night.2.1 25 = .ok (.iload_n 2, 1) := by decide +kernel
theorem d_X6_night_26 : decode m_X6_night.2.1 26 = .ok (.iload_n 1, 1) := by decide +kernel
theorem d_X6_night_27 : decode m_X6_night.2.1 27 = .ok (.if_icmp .ge 13, 3) := by decide +kernel
theorem d_X6_night_30 : decode m_X6_night.2.1 30 = .ok (.aload_n 0, 1) := by decide +kernel
theorem d_X6_night_31 : decode m_X6_night.2.1 31 = .ok (.invokevirtual 164, 3) := by decide +kernel
theorem d_X6_night_34 : decode m_X6_night.2.1 34 = .ok (.iinc 2 1, 3) := by decide +kernel
theorem d_X6_night_37 : decode m_X6_night.2.1 37 = .ok (.goto (-12), 3) := by decide +kernel
theorem d_X6_night_40 : decode m_X6_night.2.1 40 = .ok (.aload_n 0, 1) := by decide +kernel
theorem d_X6_night_41 : decode m_X6_night.2.1 41 = .ok (.invokevirtual 151, 3) := by decide +kernel
theorem d_X6_night_44 : decode m_X6_night.2.1 44 = .ok (.ireturn, 1) := by decide +kernel
theorem d_X6_keep_0 : decode m_X6_keep.2.1 0 = .ok (.iconst 0, 1) := by decide +kernel
theorem d_X6_keep_1 : decode m_X6_keep.2.1 1 = .ok (.istore_n 2, 1) := by decide +kernel
theorem d_X6_keep_2 : decode m_X6_keep.2.1 2 = .ok (.iload_n 2, 1) := by decide +kernel
theorem d_X6_keep_3 : decode m_X6_keep.2.1 3 = .ok (.iconst 5, 1) := by decide +kernel
theorem d_X6_keep_4 : decode m_X6_keep.2.1 4 = .ok (.if_icmp .ge 45, 3) := by decide +kernel
theorem d_X6_keep_7 : decode m_X6_keep.2.1 7 = .ok (.aload_n 0, 1) := by decide +kernel
theorem d_X6_keep_8 : decode m_X6_keep.2.1 8 = .ok (.getfield 40, 3) := by decide +kernel
theorem d_X6_keep_11 : decode m_X6_keep.2.1 11 = .ok (.bipush 15, 2) := by decide +kernel
theorem d_X6_keep_13 : decode m_X6_keep.2.1 13 = .ok (.iload_n 1, 1) := by decide +kernel
theorem d_X6_keep_14 : decode m_X6_keep.2.1 14 = .ok (.imul, 1) := by decide +kernel
theorem d_X6_keep_15 : decode m_X6_keep.2.1 15 = .ok (.iload_n 2, 1) := by decide +kernel
theorem d_X6_keep_16 : decode m_X6_keep.2.1 16 = .ok (.iadd, 1) := by decide +kernel
theorem d_X6_keep_17 : decode m_X6_keep.2.1 17 = .ok (.aload_n 0, 1) := by decide +kernel
theorem d_X6_keep_18 : decode m_X6_keep.2.1 18 = .ok (.getfield 25, 3) := by decide +kernel
theorem d_X6_keep_21 : decode m_X6_keep.2.1 21 = .ok (.iload_n 2, 1) := by decide +kernel
theorem d_X6_keep_22 : decode m_X6_keep.2.1 22 = .ok (.iaload, 1) := by decide +kernel
theorem d_X6_keep_23 : decode m_X6_keep.2.1 23 = .ok (.iastore, 1) := by decide +kernel
theorem d_X6_keep_24 : decode m_X6_keep.2.1 24 = .ok (.aload_n 0, 1) := by decide +kernel
theorem d_X6_keep_25 : decode m_X6_keep.2.1 25 = .ok (.getfield 40, 3) := by decide +kernel
theorem d_X6_keep_28 : decode m_X6_keep.2.1 28 = .ok (.bipush 15, 2) := by decide +kernel
theorem d_X6_keep_30 : decode m_X6_keep.2.1 30 = .ok (.iload_n 1, 1) := by decide +kernel
theorem d_X6_keep_31 : decode m_X6_keep.2.1 31 = .ok (.imul, 1) := by decide +kernel
theorem d_X6_keep_32 : decode m_X6_keep.2.1 32 = .ok (.iconst 5, 1) := by decide +kernel
theorem d_X6_keep_33 : decode m_X6_keep.2.1 33 = .ok (.iadd, 1) := by decide +kernel
theorem d_X6_keep_34 : decode m_X6_keep.2.1 34 = .ok (.iload_n 2, 1) := by decide +kernel
theorem d_X6_keep_35 : decode m_X6_keep.2.1 35 = .ok (.iadd, 1) := by decide +kernel
theorem d_X6_keep_36 : decode m_X6_keep.2.1 36 = .ok (.aload_n 0, 1) := by decide +kernel
theorem d_X6_keep_37 : decode m_X6_keep.2.1 37 = .ok (.getfield 28, 3) := by decide +kernel
theorem d_X6_keep_40 : decode m_X6_keep.2.1 40 = .ok (.iload_n 2, 1) := by decide +kernel
theorem d_X6_keep_41 : decode m_X6_keep.2.1 41 = .ok (.iaload, 1) := by decide +kernel
theorem d_X6_keep_42 : decode m_X6_keep.2.1 42 = .ok (.iastore, 1) := by decide +kernel
theorem d_X6_keep_43 : decode m_X6_keep.2.1 43 = .ok (.iinc 2 1, 3) := by decide +kernel
theorem d_X6_keep_46 : decode m_X6_keep.2.1 46 = .ok (.goto (-44), 3) := by decide +kernel
theorem d_X6_keep_49 : decode m_X6_keep.2.1 49 = .ok (.aload_n 0, 1) := by decide +kernel
theorem d_X6_keep_50 : decode m_X6_keep.2.1 50 = .ok (.getfield 40, 3) := by decide +kernel
theorem d_X6_keep_53 : decode m_X6_keep.2.1 53 = .ok (.bipush 15, 2) := by decide +kernel
theorem d_X6_keep_55 : decode m_X6_keep.2.1 55 = .ok (.iload_n 1, 1) := by decide +kernel
theorem d_X6_keep_56 : decode m_X6_keep.2.1 56 = .ok (.imul, 1) := by decide +kernel
theorem d_X6_keep_57 : decode m_X6_keep.2.1 57 = .ok (.bipush 10, 2) := by decide +kernel
theorem d_X6_keep_59 : decode m_X6_keep.2.1 59 = .ok (.iadd, 1) := by decide +kernel
theorem d_X6_keep_60 : decode m_X6_keep.2.1 60 = .ok (.aload_n 0, 1) := by decide +kernel
theorem d_X6_keep_61 : decode m_X6_keep.2.1 61 = .ok (.getfield 104, 3) := by decide +kernel
theorem d_X6_keep_64 : decode m_X6_keep.2.1 64 = .ok (.iastore, 1) := by decide +kernel
theorem d_X6_keep_65 : decode m_X6_keep.2.1 65 = .ok (.aload_n 0, 1) := by decide +kernel
theorem d_X6_keep_66 : decode m_X6_keep.2.1 66 = .ok (.getfield 40, 3) := by decide +kernel
theorem d_X6_keep_69 : decode m_X6_keep.2.1 69 = .ok (.bipush 15, 2) := by decide +kernel
theorem d_X6_keep_71 : decode m_X6_keep.2.1 71 = .ok (.iload_n 1, 1) := by decide +kernel
theorem d_X6_keep_72 : decode m_X6_keep.2.1 72 = .ok (.imul, 1) := by decide +kernel
theorem d_X6_keep_73 : decode m_X6_keep.2.1 73 = .ok (.bipush 11, 2) := by decide +kernel
theorem d_X6_keep_75 : decode m_X6_keep.2.1 75 = .ok (.iadd, 1) := by decide +kernel
theorem d_X6_keep_76 : decode m_X6_keep.2.1 76 = .ok (.aload_n 0, 1) := by decide +kernel
theorem d_X6_keep_77 : decode m_X6_keep.2.1 77 = .ok (.getfield 107, 3) := by decide +kernel
theorem d_X6_keep_80 : decode m_X6_keep.2.1 80 = .ok (.iastore, 1) := by decide +kernel
theorem d_X6_keep_81 : decode m_X6_keep.2.1 81 = .ok (.aload_n 0, 1) := by decide +kernel
theorem d_X6_keep_82 : decode m_X6_keep.2.1 82 = .ok (.getfield 40, 3) := by decide +kernel
theorem d_X6_keep_85 : decode m_X6_keep.2.1 85 = .ok (.bipush 15, 2) := by decide +kernel
theorem d_X6_keep_87 : decode m_X6_keep.2.1 87 = .ok (.iload_n 1, 1) := by decide +kernel
theorem d_X6_keep_88 : decode m_X6_keep.2.1 88 = .ok (.imul, 1) := by decide +kernel
theorem d_X6_keep_89 : decode m_X6_keep.2.1 89 = .ok (.bipush 12, 2) := by decide +kernel
theorem d_X6_keep_91 : decode m_X6_keep.2.1 91 = .ok (.iadd, 1) := by decide +kernel
theorem d_X6_keep_92 : decode m_X6_keep.2.1 92 = .ok (.aload_n 0, 1) := by decide +kernel
theorem d_X6_keep_93 : decode m_X6_keep.2.1 93 = .ok (.getfield 110, 3) := by decide +kernel
theorem d_X6_keep_96 : decode m_X6_keep.2.1 96 = .ok (.iastore, 1) := by decide +kernel
theorem d_X6_keep_97 : decode m_X6_keep.2.1 97 = .ok (.aload_n 0, 1) := by decide +kernel
theorem d_X6_keep_98 : decode m_X6_keep.2.1 98 = .ok (.getfield 40, 3) := by decide +kernel
theorem d_X6_keep_101 : decode m_X6_keep.2.1 101 = .ok (.bipush 15, 2) := by decide +kernel
theorem d_X6_keep_103 : decode m_X6_keep.2.1 103 = .ok (.iload_n 1, 1) := by decide +kernel
theorem d_X6_keep_104 : decode m_X6_keep.2.1 104 = .ok (.imul, 1) := by decide +kernel
theorem d_X6_keep_105 : decode m_X6_keep.2.1 105 = .ok (.bipush 13, 2) := by decide +kernel
theorem d_X6_keep_107 : decode m_X6_keep.2.1 107 = .ok (.iadd, 1) := by decide +kernel
theorem d_X6_keep_108 : decode m_X6_keep.2.1 108 = .ok (.aload_n 0, 1) := by decide +kernel
theorem d_X6_keep_109 : decode m_X6_keep.2.1 109 = .ok (.getfield 113, 3) := by decide +kernel
theorem d_X6_keep_112 : decode m_X6_keep.2.1 112 = .ok (.iastore, 1) := by decide +kernel
theorem d_X6_keep_113 : decode m_X6_keep.2.1 113 = .ok (.aload_n 0, 1) := by decide +kernel
theorem d_X6_keep_114 : decode m_X6_keep.2.1 114 = .ok (.getfield 40, 3) := by decide +kernel
theorem d_X6_keep_117 : decode m_X6_keep.2.1 117 = .ok (.bipush 15, 2) := by decide +kernel
theorem d_X6_keep_119 : decode m_X6_keep.2.1 119 = .ok (.iload_n 1, 1) := by decide +kernel
theorem d_X6_keep_120 : decode m_X6_keep.2.1 120 = .ok (.imul, 1) := by decide +kernel
theorem d_X6_keep_121 : decode m_X6_keep.2.1 121 = .ok (.bipush 14, 2) := by decide +kernel
theorem d_X6_keep_123 : decode m_X6_keep.2.1 123 = .ok (.iadd, 1) := by decide +kernel
theorem d_X6_keep_124 : decode m_X6_keep.2.1 124 = .ok (.aload_n 0, 1) := by decide +kernel
theorem d_X6_keep_125 : decode m_X6_keep.2.1 125 = .ok (.getfield 116, 3) := by decide +kernel
theorem d_X6_keep_128 : decode m_X6_keep.2.1 128 = .ok (.iastore, 1) := by decide +kernel
theorem d_X6_keep_129 : decode m_X6_keep.2.1 129 = .ok (.return_, 1) := by decide +kernel
theorem d_X6_putBack_0 : decode m_X6_putBack.2.1 0 = .ok (.iconst 0, 1) := by decide +kernel
theorem d_X6_putBack_1 : decode m_X6_putBack.2.1 1 = .ok (.istore_n 2, 1) := by decide +kernel
theorem d_X6_putBack_2 : decode m_X6_putBack.2.1 2 = .ok (.iload_n 2, 1) := by decide +kernel
theorem d_X6_putBack_3 : decode m_X6_putBack.2.1 3 = .ok (.iconst 5, 1) := by decide +kernel
theorem d_X6_putBack_4 : decode m_X6_putBack.2.1 4 = .ok (.if_icmp .ge 45, 3) := by decide +kernel
theorem d_X6_putBack_7 : decode m_X6_putBack.2.1 7 = .ok (.aload_n 0, 1) := by decide +kernel
theorem d_X6_putBack_8 : decode m_X6_putBack.2.1 8 = .ok (.getfield 25, 3) := by decide +kernel
theorem d_X6_putBack_11 : decode m_X6_putBack.2.1 11 = .ok (.iload_n 2, 1) := by decide +kernel
theorem d_X6_putBack_12 : decode m_X6_putBack.2.1 12 = .ok (.aload_n 0, 1) := by decide +kernel
theorem d_X6_putBack_13 : decode m_X6_putBack.2.1 13 = .ok (.getfield 40, 3) := by decide +kernel
theorem d_X6_putBack_16 : decode m_X6_putBack.2.1 16 = .ok (.bipush 15, 2) := by decide +kernel
theorem d_X6_putBack_18 : decode m_X6_putBack.2.1 18 = .ok (.iload_n 1, 1) := by decide +kernel
theorem d_X6_putBack_19 : decode m_X6_putBack.2.1 19 = .ok (.imul, 1) := by decide +kernel
theorem d_X6_putBack_20 : decode m_X6_putBack.2.1 20 = .ok (.iload_n 2, 1) := by decide +kernel
theorem d_X6_putBack_21 : decode m_X6_putBack.2.1 21 = .ok (.iadd, 1) := by decide +kernel
theorem d_X6_putBack_22 : decode m_X6_putBack.2.1 22 = .ok (.iaload, 1) := by decide +kernel
theorem d_X6_putBack_23 : decode m_X6_putBack.2.1 23 = .ok (.iastore, 1) := by decide +kernel
theorem d_X6_putBack_24 : decode m_X6_putBack.2.1 24 = .ok (.aload_n 0, 1) := by decide +kernel
theorem d_X6_putBack_25 : decode m_X6_putBack.2.1 25 = .ok (.getfield 28, 3) := by decide +kernel
theorem d_X6_putBack_28 : decode m_X6_putBack.2.1 28 = .ok (.iload_n 2, 1) := by decide +kernel
theorem d_X6_putBack_29 : decode m_X6_putBack.2.1 29 = .ok (.aload_n 0, 1) := by decide +kernel
theorem d_X6_putBack_30 : decode m_X6_putBack.2.1 30 = .ok (.getfield 40, 3) := by decide +kernel
theorem d_X6_putBack_33 : decode m_X6_putBack.2.1 33 = .ok (.bipush 15, 2) := by decide +kernel
theorem d_X6_putBack_35 : decode m_X6_putBack.2.1 35 = .ok (.iload_n 1, 1) := by decide +kernel
theorem d_X6_putBack_36 : decode m_X6_putBack.2.1 36 = .ok (.imul, 1) := by decide +kernel
theorem d_X6_putBack_37 : decode m_X6_putBack.2.1 37 = .ok (.iconst 5, 1) := by decide +kernel
theorem d_X6_putBack_38 : decode m_X6_putBack.2.1 38 = .ok (.iadd, 1) := by decide +kernel
theorem d_X6_putBack_39 : decode m_X6_putBack.2.1 39 = .ok (.iload_n 2, 1) := by decide +kernel
theorem d_X6_putBack_40 : decode m_X6_putBack.2.1 40 = .ok (.iadd, 1) := by decide +kernel
theorem d_X6_putBack_41 : decode m_X6_putBack.2.1 41 = .ok (.iaload, 1) := by decide +kernel
theorem d_X6_putBack_42 : decode m_X6_putBack.2.1 42 = .ok (.iastore, 1) := by decide +kernel
theorem d_X6_putBack_43 : decode m_X6_putBack.2.1 43 = .ok (.iinc 2 1, 3) := by decide +kernel
theorem d_X6_putBack_46 : decode m_X6_putBack.2.1 46 = .ok (.goto (-44), 3) := by decide +kernel
theorem d_X6_putBack_49 : decode m_X6_putBack.2.1 49 = .ok (.aload_n 0, 1) := by decide +kernel
theorem d_X6_putBack_50 : decode m_X6_putBack.2.1 50 = .ok (.aload_n 0, 1) := by decide +kernel
theorem d_X6_putBack_51 : decode m_X6_putBack.2.1 51 = .ok (.getfield 40, 3) := by decide +kernel
theorem d_X6_putBack_54 : decode m_X6_putBack.2.1 54 = .ok (.bipush 15, 2) := by decide +kernel
theorem d_X6_putBack_56 : decode m_X6_putBack.2.1 56 = .ok (.iload_n 1, 1) := by decide +kernel
theorem d_X6_putBack_57 : decode m_X6_putBack.2.1 57 = .ok (.imul, 1) := by decide +kernel
theorem d_X6_putBack_58 : decode m_X6_putBack.2.1 58 = .ok (.bipush 10, 2) := by decide +kernel
theorem d_X6_putBack_60 : decode m_X6_putBack.2.1 60 = .ok (.iadd, 1) := by decide +kernel
theorem d_X6_putBack_61 : decode m_X6_putBack.2.1 61 = .ok (.iaload, 1) := by decide +kernel
theorem d_X6_putBack_62 : decode m_X6_putBack.2.1 62 = .ok (.putfield 104, 3) := by decide +kernel
theorem d_X6_putBack_65 : decode m_X6_putBack.2.1 65 = .ok (.aload_n 0, 1) := by decide +kernel
theorem d_X6_putBack_66 : decode m_X6_putBack.2.1 66 = .ok (.aload_n 0, 1) := by decide +kernel
theorem d_X6_putBack_67 : decode m_X6_putBack.2.1 67 = .ok (.getfield 40, 3) := by decide +kernel
theorem d_X6_putBack_70 : decode m_X6_putBack.2.1 70 = .ok (.bipush 15, 2) := by decide +kernel
theorem d_X6_putBack_72 : decode m_X6_putBack.2.1 72 = .ok (.iload_n 1, 1) := by decide +kernel
theorem d_X6_putBack_73 : decode m_X6_putBack.2.1 73 = .ok (.imul, 1) := by decide +kernel
theorem d_X6_putBack_74 : decode m_X6_putBack.2.1 74 = .ok (.bipush 11, 2) := by decide +kernel
theorem d_X6_putBack_76 : decode m_X6_putBack.2.1 76 = .ok (.iadd, 1) := by decide +kernel
theorem d_X6_putBack_77 : decode m_X6_putBack.2.1 77 = .ok (.iaload, 1) := by decide +kernel
theorem d_X6_putBack_78 : decode m_X6_putBack.2.1 78 = .ok (.putfield 107, 3) := by decide +kernel
theorem d_X6_putBack_81 : decode m_X6_putBack.2.1 81 = .ok (.aload_n 0, 1) := by decide +kernel
theorem d_X6_putBack_82 : decode m_X6_putBack.2.1 82 = .ok (.aload_n 0, 1) := by decide +kernel
theorem d_X6_putBack_83 : decode m_X6_putBack.2.1 83 = .ok (.getfield 40, 3) := by decide +kernel
theorem d_X6_putBack_86 : decode m_X6_putBack.2.1 86 = .ok (.bipush 15, 2) := by decide +kernel
theorem d_X6_putBack_88 : decode m_X6_putBack.2.1 88 = .ok (.iload_n 1, 1) := by decide +kernel
theorem d_X6_putBack_89 : decode m_X6_putBack.2.1 89 = .ok (.imul, 1) := by decide +kernel
theorem d_X6_putBack_90 : decode m_X6_putBack.2.1 90 = .ok (.bipush 12, 2) := by decide +kernel
theorem d_X6_putBack_92 : decode m_X6_putBack.2.1 92 = .ok (.iadd, 1) := by decide +kernel
theorem d_X6_putBack_93 : decode m_X6_putBack.2.1 93 = .ok (.iaload, 1) := by decide +kernel
theorem d_X6_putBack_94 : decode m_X6_putBack.2.1 94 = .ok (.putfield 110, 3) := by decide +kernel
theorem d_X6_putBack_97 : decode m_X6_putBack.2.1 97 = .ok (.aload_n 0, 1) := by decide +kernel
theorem d_X6_putBack_98 : decode m_X6_putBack.2.1 98 = .ok (.aload_n 0, 1) := by decide +kernel
theorem d_X6_putBack_99 : decode m_X6_putBack.2.1 99 = .ok (.getfield 40, 3) := by decide +kernel
theorem d_X6_putBack_102 : decode m_X6_putBack.2.1 102 = .ok (.bipush 15, 2) := by decide +kernel
theorem d_X6_putBack_104 : decode m_X6_putBack.2.1 104 = .ok (.iload_n 1, 1) := by decide +kernel
theorem d_X6_putBack_105 : decode m_X6_putBack.2.1 105 = .ok (.imul, 1) := by decide +kernel
theorem d_X6_putBack_106 : decode m_X6_putBack.2.1 106 = .ok (.bipush 13, 2) := by decide +kernel
theorem d_X6_putBack_108 : decode m_X6_putBack.2.1 108 = .ok (.iadd, 1) := by decide +kernel
theorem d_X6_putBack_109 : decode m_X6_putBack.2.1 109 = .ok (.iaload, 1) := by decide +kernel
theorem d_X6_putBack_110 : decode m_X6_putBack.2.1 110 = .ok (.putfield 113, 3) := by decide +kernel
theorem d_X6_putBack_113 : decode m_X6_putBack.2.1 113 = .ok (.aload_n 0, 1) := by decide +kernel
theorem d_X6_putBack_114 : decode m_X6_putBack.2.1 114 = .ok (.aload_n 0, 1) := by decide +kernel
theorem d_X6_putBack_115 : decode m_X6_putBack.2.1 115 = .ok (.getfield 40, 3) := by decide +kernel
theorem d_X6_putBack_118 : decode m_X6_putBack.2.1 118 = .ok (.bipush 15, 2) := by decide +kernel
theorem d_X6_putBack_120 : decode m_X6_putBack.2.1 120 = .ok (.iload_n 1, 1) := by decide +kernel
theorem d_X6_putBack_121 : decode m_X6_putBack.2.1 121 = .ok (.imul, 1) := by decide +kernel
theorem d_X6_putBack_122 : decode m_X6_putBack.2.1 122 = .ok (.bipush 14, 2) := by decide +kernel
theorem d_X6_putBack_124 : decode m_X6_putBack.2.1 124 = .ok (.iadd, 1) := by decide +kernel
theorem d_X6_putBack_125 : decode m_X6_putBack.2.1 125 = .ok (.iaload, 1) := by decide +kernel
theorem d_X6_putBack_126 : decode m_X6_putBack.2.1 126 = .ok (.putfield 116, 3) := by decide +kernel
theorem d_X6_putBack_129 : decode m_X6_putBack.2.1 129 = .ok (.return_, 1) := by decide +kernel
