theorem d_X0_init_0 : decode m_X0_init.2.1 0 = .ok (.aload_n 0, 1) := by decide +kernel
theorem d_X0_init_1 : decode m_X0_init.2.1 1 = .ok (.invokespecial 3, 3) := by decide +kernel
theorem d_X0_init_4 : decode m_X0_init.2.1 4 = .ok (.aload_n 0, 1) := by decide +kernel
theorem d_X0_init_5 : decode m_X0_init.2.1 5 = .ok (.iconst 0, 1) := by decide +kernel
theorem d_X0_init_6 : decode m_X0_init.2.1 6 = .ok (.putfield 9, 3) := by decide +kernel
theorem d_X0_init_9 : decode m_X0_init.2.1 9 = .ok (.aload_n 0, 1) := by decide +kernel
theorem d_X0_init_10 : decode m_X0_init.2.1 10 = .ok (.iconst 0, 1) := by decide +kernel
theorem d_X0_init_11 : decode m_X0_init.2.1 11 = .ok (.putfield 15, 3) := by decide +kernel
theorem d_X0_init_14 : decode m_X0_init.2.1 14 = .ok (.aload_n 0, 1) := by decide +kernel
theorem d_X0_init_15 : decode m_X0_init.2.1 15 = .ok (.iconst 0, 1) := by decide +kernel
theorem d_X0_init_16 : decode m_X0_init.2.1 16 = .ok (.putfield 18, 3) := by decide +kernel
theorem d_X0_init_19 : decode m_X0_init.2.1 19 = .ok (.aload_n 0, 1) := by decide +kernel
theorem d_X0_init_20 : decode m_X0_init.2.1 20 = .ok (.iconst 0, 1) := by decide +kernel
theorem d_X0_init_21 : decode m_X0_init.2.1 21 = .ok (.putfield 21, 3) := by decide +kernel
theorem d_X0_init_24 : decode m_X0_init.2.1 24 = .ok (.aload_n 0, 1) := by decide +kernel
theorem d_X0_init_25 : decode m_X0_init.2.1 25 = .ok (.iconst 0, 1) := by decide +kernel
theorem d_X0_init_26 : decode m_X0_init.2.1 26 = .ok (.putfield 24, 3) := by decide +kernel
theorem d_X0_init_29 : decode m_X0_init.2.1 29 = .ok (.return_, 1) := by decide +kernel
theorem d_X0_weight_0 : decode m_X0_weight.2.1 0 = .ok (.aload_n 0, 1) := by decide +kernel
theorem d_X0_weight_1 : decode m_X0_weight.2.1 1 = .ok (.getfield 9, 3) := by decide +kernel
theorem d_X0_weight_4 : decode m_X0_weight.2.1 4 = .ok (.lookupswitch 42 #[(1, 35), (2, 28)], 28) := by decide +kernel
theorem d_X0_weight_32 : decode m_X0_weight.2.1 32 = .ok (.iconst 2, 1) := by decide +kernel
theorem d_X0_weight_33 : decode m_X0_weight.2.1 33 = .ok (.aload_n 0, 1) := by decide +kernel
theorem d_X0_weight_34 : decode m_X0_weight.2.1 34 = .ok (.getfield 15, 3) := by decide +kernel
theorem d_X0_weight_37 : decode m_X0_weight.2.1 37 = .ok (.imul, 1) := by decide +kernel
theorem d_X0_weight_38 : decode m_X0_weight.2.1 38 = .ok (.ireturn, 1) := by decide +kernel
theorem d_X0_weight_39 : decode m_X0_weight.2.1 39 = .ok (.aload_n 0, 1) := by decide +kernel
theorem d_X0_weight_40 : decode m_X0_weight.2.1 40 = .ok (.getfield 15, 3) := by decide +kernel
theorem d_X0_weight_43 : decode m_X0_weight.2.1 43 = .ok (.iconst 1, 1) := by decide +kernel
theorem d_X0_weight_44 : decode m_X0_weight.2.1 44 = .ok (.iadd, 1) := by decide +kernel
theorem d_X0_weight_45 : decode m_X0_weight.2.1 45 = .ok (.ireturn, 1) := by decide +kernel
theorem d_X0_weight_46 : decode m_X0_weight.2.1 46 = .ok (.aload_n 0, 1) := by decide +kernel
theorem d_X0_weight_47 : decode m_X0_weight.2.1 47 = .ok (.getfield 15, 3) := by decide +kernel
theorem d_X0_weight_50 : decode m_X0_weight.2.1 50 = .ok (.ireturn, 1) := by decide +kernel
theorem d_X0_rankles_0 : decode m_X0_rankles.2.1 0 = .ok (.aload_n 0, 1) := by decide +kernel
theorem d_X0_rankles_1 : decode m_X0_rankles.2.1 1 = .ok (.getfield 24, 3) := by decide +kernel
theorem d_X0_rankles_4 : decode m_X0_rankles.2.1 4 = .ok (.ifCond .ne 14, 3) := by decide +kernel
theorem d_X0_rankles_7 : decode m_X0_rankles.2.1 7 = .ok (.aload_n 0, 1) := by decide +kernel
theorem d_X0_rankles_8 : decode m_X0_rankles.2.1 8 = .ok (.invokevirtual 28, 3) := by decide +kernel
theorem d_X0_rankles_11 : decode m_X0_rankles.2.1 11 = .ok (.ifCond .le 7, 3) := by decide +kernel
theorem d_X0_rankles_14 : decode m_X0_rankles.2.1 14 = .ok (.iconst 1, 1) := by decide +kernel
theorem d_X0_rankles_15 : decode m_X0_rankles.2.1 15 = .ok (.goto 4, 3) := by decide +kernel
theorem d_X0_rankles_18 : decode m_X0_rankles.2.1 18 = .ok (.iconst 0, 1) := by decide +kernel
theorem d_X0_rankles_19 : decode m_X0_rankles.2.1 19 = .ok (.ireturn, 1) := by decide +kernel
theorem d_X0_ownUp_0 : decode m_X0_ownUp.2.1 0 = .ok (.aload_n 0, 1) := by decide +kernel
theorem d_X0_ownUp_1 : decode m_X0_ownUp.2.1 1 = .ok (.invokevirtual 32, 3) := by decide +kernel
theorem d_X0_ownUp_4 : decode m_X0_ownUp.2.1 4 = .ok (.ifCond .ne 15, 3) := by decide +kernel
theorem d_X0_ownUp_7 : decode m_X0_ownUp.2.1 7 = .ok (.aload_n 0, 1) := by decide +kernel
theorem d_X0_ownUp_8 : decode m_X0_ownUp.2.1 8 = .ok (.dup, 1) := by decide +kernel
theorem d_X0_ownUp_9 : decode m_X0_ownUp.2.1 9 = .ok (.getfield 21, 3) := by decide +kernel
theorem d_X0_ownUp_12 : decode m_X0_ownUp.2.1 12 = .ok (.iconst 1, 1) := by decide +kernel
theorem d_X0_ownUp_13 : decode m_X0_ownUp.2.1 13 = .ok (.iadd, 1) := by decide +kernel
theorem d_X0_ownUp_14 : decode m_X0_ownUp.2.1 14 = .ok (.putfield 21, 3) := by decide +kernel
theorem d_X0_ownUp_17 : decode m_X0_ownUp.2.1 17 = .ok (.iconst 0, 1) := by decide +kernel
theorem d_X0_ownUp_18 : decode m_X0_ownUp.2.1 18 = .ok (.ireturn, 1) := by decide +kernel
theorem d_X0_ownUp_19 : decode m_X0_ownUp.2.1 19 = .ok (.aload_n 0, 1) := by decide +kernel
theorem d_X0_ownUp_20 : decode m_X0_ownUp.2.1 20 = .ok (.iconst 1, 1) := by decide +kernel
theorem d_X0_ownUp_21 : decode m_X0_ownUp.2.1 21 = .ok (.putfield 24, 3) := by decide +kernel
theorem d_X0_ownUp_24 : decode m_X0_ownUp.2.1 24 = .ok (.iconst 1, 1) := by decide +kernel
theorem d_X0_ownUp_25 : decode m_X0_ownUp.2.1 25 = .ok (.ireturn, 1) := by decide +kernel
theorem d_X0_become_0 : decode m_X0_become.2.1 0 = .ok (.aload_n 0, 1) := by decide +kernel
theorem d_X0_become_1 : decode m_X0_become.2.1 1 = .ok (.aload_n 1, 1) := by decide +kernel
theorem d_X0_become_2 : decode m_X0_become.2.1 2 = .ok (.getfield 9, 3) := by decide +kernel
theorem d_X0_become_5 : decode m_X0_become.2.1 5 = .ok (.putfield 9, 3) := by decide +kernel
theorem d_X0_become_8 : decode m_X0_become.2.1 8 = .ok (.aload_n 0, 1) := by decide +kernel
theorem d_X0_become_9 : decode m_X0_become.2.1 9 = .ok (.aload_n 1, 1) := by decide +kernel
theorem d_X0_become_10 : decode m_X0_become.2.1 10 = .ok (.getfield 15, 3) := by decide +kernel
theorem d_X0_become_13 : decode m_X0_become.2.1 13 = .ok (.putfield 15, 3) := by decide +kernel
theorem d_X0_become_16 : decode m_X0_become.2.1 16 = .ok (.aload_n 0, 1) := by decide +kernel
theorem d_X0_become_17 : decode m_X0_become.2.1 17 = .ok (.aload_n 1, 1) := by decide +kernel
theorem d_X0_become_18 : decode m_X0_become.2.1 18 = .ok (.getfield 18, 3) := by decide +kernel
theorem d_X0_become_21 : decode m_X0_become.2.1 21 = .ok (.putfield 18, 3) := by decide +kernel
theorem d_X0_become_24 : decode m_X0_become.2.1 24 = .ok (.aload_n 0, 1) := by decide +kernel
theorem d_X0_become_25 : decode m_X0_become.2.1 25 = .ok (.aload_n 1, 1) := by decide +kernel
theorem d_X0_become_26 : decode m_X0_become.2.1 26 = .ok (.getfield 21, 3) := by decide +kernel
theorem d_X0_become_29 : decode m_X0_become.2.1 29 = .ok (.putfield 21, 3) := by decide +kernel
theorem d_X0_become_32 : decode m_X0_become.2.1 32 = .ok (.aload_n 0, 1) := by decide +kernel
theorem d_X0_become_33 : decode m_X0_become.2.1 33 = .ok (.aload_n 1, 1) := by decide +kernel
theorem d_X0_become_34 : decode m_X0_become.2.1 34 = .ok (.getfield 24, 3) := by decide +kernel
theorem d_X0_become_37 : decode m_X0_become.2.1 37 = .ok (.putfield 24, 3) := by decide +kernel
theorem d_X0_become_40 : decode m_X0_become.2.1 40 = .ok (.return_, 1) := by decide +kernel
theorem d_X1_init_0 : decode m_X1_init.2.1 0 = .ok (.aload_n 0, 1) := by decide +kernel
theorem d_X1_init_1 : decode m_X1_init.2.1 1 = .ok (.invokespecial 5, 3) := by decide +kernel
theorem d_X1_init_4 : decode m_X1_init.2.1 4 = .ok (.aload_n 0, 1) := by decide +kernel
theorem d_X1_init_5 : decode m_X1_init.2.1 5 = .ok (.iconst 5, 1) := by decide +kernel
theorem d_X1_init_6 : decode m_X1_init.2.1 6 = .ok (.anewarray 11, 3) := by decide +kernel
theorem d_X1_init_9 : decode m_X1_init.2.1 9 = .ok (.putfield 13, 3) := by decide +kernel
theorem d_X1_init_12 : decode m_X1_init.2.1 12 = .ok (.aload_n 0, 1) := by decide +kernel
theorem d_X1_init_13 : decode m_X1_init.2.1 13 = .ok (.iconst 4, 1) := by decide +kernel
theorem d_X1_init_14 : decode m_X1_init.2.1 14 = .ok (.anewarray 17, 3) := by decide +kernel
theorem d_X1_init_17 : decode m_X1_init.2.1 17 = .ok (.putfield 19, 3) := by decide +kernel
theorem d_X1_init_20 : decode m_X1_init.2.1 20 = .ok (.aload_n 0, 1) := by decide +kernel
theorem d_X1_init_21 : decode m_X1_init.2.1 21 = .ok (.iconst 0, 1) := by decide +kernel
theorem d_X1_init_22 : decode m_X1_init.2.1 22 = .ok (.putfield 23, 3) := by decide +kernel
theorem d_X1_init_25 : decode m_X1_init.2.1 25 = .ok (.aload_n 0, 1) := by decide +kernel
theorem d_X1_init_26 : decode m_X1_init.2.1 26 = .ok (.iconst 0, 1) := by decide +kernel
theorem d_X1_init_27 : decode m_X1_init.2.1 27 = .ok (.putfield 27, 3) := by decide +kernel
theorem d_X1_init_30 : decode m_X1_init.2.1 30 = .ok (.aload_n 0, 1) := by decide +kernel
theorem d_X1_init_31 : decode m_X1_init.2.1 31 = .ok (.iconst 0, 1) := by decide +kernel
theorem d_X1_init_32 : decode m_X1_init.2.1 32 = .ok (.putfield 30, 3) := by decide +kernel
theorem d_X1_init_35 : decode m_X1_init.2.1 35 = .ok (.aload_n 0, 1) := by decide +kernel
theorem d_X1_init_36 : decode m_X1_init.2.1 36 = .ok (.iconst 0, 1) := by decide +kernel
theorem d_X1_init_37 : decode m_X1_init.2.1 37 = .ok (.putfield 33, 3) := by decide +kernel
theorem d_X1_init_40 : decode m_X1_init.2.1 40 = .ok (.iconst 0, 1) := by decide +kernel
theorem d_X1_init_41 : decode m_X1_init.2.1 41 = .ok (.istore_n 1, 1) := by decide +kernel
theorem d_X1_init_42 : decode m_X1_init.2.1 42 = .ok (.iload_n 1, 1) := by decide +kernel
theorem d_X1_init_43 : decode m_X1_init.2.1 43 = .ok (.iconst 5, 1) := by decide +kernel
theorem d_X1_init_44 : decode m_X1_init.2.1 44 = .ok (.if_icmp .ge 22, 3) := by decide +kernel
theorem d_X1_init_47 : decode m_X1_init.2.1 47 = .ok (.aload_n 0, 1) := by decide +kernel
theorem d_X1_init_48 : decode m_X1_init.2.1 48 = .ok (.getfield 13, 3) := by decide +kernel
theorem d_X1_init_51 : decode m_X1_init.2.1 51 = .ok (.iload_n 1, 1) := by decide +kernel
theorem d_X1_init_52 : decode m_X1_init.2.1 52 = .ok (.new 11, 3) := by decide +kernel
theorem d_X1_init_55 : decode m_X1_init.2.1 55 = .ok (.dup, 1) := by decide +kernel
theorem d_X1_init_56 : decode m_X1_init.2.1 56 = .ok (.invokespecial 36, 3) := by decide +kernel
theorem d_X1_init_59 : decode m_X1_init.2.1 59 = .ok (.aastore, 1) := by decide +kernel
theorem d_X1_init_60 : decode m_X1_init.2.1 60 = .ok (.iinc 1 1, 3) := by decide +kernel
theorem d_X1_init_63 : decode m_X1_init.2.1 63 = .ok (.goto (-21), 3) := by decide +kernel
theorem d_X1_init_66 : decode m_X1_init.2.1 66 = .ok (.iconst 0, 1) := by decide +kernel
theorem d_X1_init_67 : decode m_X1_init.2.1 67 = .ok (.istore_n 1, 1) := by decide +kernel
theorem d_X1_init_68 : decode m_X1_init.2.1 68 = .ok (.iload_n 1, 1) := by decide +kernel
theorem d_X1_init_69 : decode m_X1_init.2.1 69 = .ok (.iconst 4, 1) := by decide +kernel
theorem d_X1_init_70 : decode m_X1_init.2.1 70 = .ok (.if_icmp .ge 22, 3) := by decide +kernel
theorem d_X1_init_73 : decode m_X1_init.2.1 73 = .ok (.aload_n 0, 1) := by decide +kernel
theorem d_X1_init_74 : decode m_X1_init.2.1 74 = .ok (.getfield 19, 3) := by decide +kernel
theorem d_X1_init_77 : decode m_X1_init.2.1 77 = .ok (.iload_n 1, 1) := by decide +kernel
theorem d_X1_init_78 : decode m_X1_init.2.1 78 = .ok (.new 17, 3) := by decide +kernel
theorem d_X1_init_81 : decode m_X1_init.2.1 81 = .ok (.dup, 1) := by decide +kernel
theorem d_X1_init_82 : decode m_X1_init.2.1 82 = .ok (.invokespecial 37, 3) := by decide +kernel
theorem d_X1_init_85 : decode m_X1_init.2.1 85 = .ok (.aastore, 1) := by decide +kernel
theorem d_X1_init_86 : decode m_X1_init.2.1 86 = .ok (.iinc 1 1, 3) := by decide +kernel
theorem d_X1_init_89 : decode m_X1_init.2.1 89 = .ok (.goto (-21), 3) := by decide +kernel
theorem d_X1_init_92 : decode m_X1_init.2.1 92 = .ok (.return_, 1) := by decide +kernel
theorem d_X1_hasHouse_0 : decode m_X1_hasHouse.2.1 0 = .ok (.iload_n 1, 1) := by decide +kernel
theorem d_X1_hasHouse_1 : decode m_X1_hasHouse.2.1 1 = .ok (.ifCond .lt 15, 3) := by decide +kernel
theorem d_X1_hasHouse_4 : decode m_X1_hasHouse.2.1 4 = .ok (.iload_n 1, 1) := by decide +kernel
theorem d_X1_hasHouse_5 : decode m_X1_hasHouse.2.1 5 = .ok (.aload_n 0, 1) := by decide +kernel
theorem d_X1_hasHouse_6 : decode m_X1_hasHouse.2.1 6 = .ok (.getfield 23, 3) := by decide +kernel
theorem d_X1_hasHouse_9 : decode m_X1_hasHouse.2.1 9 = .ok (.if_icmp .ge 7, 3) := by decide +kernel
theorem d_X1_hasHouse_12 : decode m_X1_hasHouse.2.1 12 = .ok (.iconst 1, 1) := by decide +kernel
theorem d_X1_hasHouse_13 : decode m_X1_hasHouse.2.1 13 = .ok (.goto 4, 3) := by decide +kernel
theorem d_X1_hasHouse_16 : decode m_X1_hasHouse.2.1 16 = .ok (.iconst 0, 1) := by decide +kernel
theorem d_X1_hasHouse_17 : decode m_X1_hasHouse.2.1 17 = .ok (.ireturn, 1) := by decide +kernel
theorem d_X1_hasStone_0 : decode m_X1_hasStone.2.1 0 = .ok (.iload_n 1, 1) := by decide +kernel
theorem d_X1_hasStone_1 : decode m_X1_hasStone.2.1 1 = .ok (.ifCond .lt 15, 3) := by decide +kernel
theorem d_X1_hasStone_4 : decode m_X1_hasStone.2.1 4 = .ok (.iload_n 1, 1) := by decide +kernel
theorem d_X1_hasStone_5 : decode m_X1_hasStone.2.1 5 = .ok (.aload_n 0, 1) := by decide +kernel
theorem d_X1_hasStone_6 : decode m_X1_hasStone.2.1 6 = .ok (.getfield 27, 3) := by decide +kernel
theorem d_X1_hasStone_9 : decode m_X1_hasStone.2.1 9 = .ok (.if_icmp .ge 7, 3) := by decide +kernel
theorem d_X1_hasStone_12 : decode m_X1_hasStone.2.1 12 = .ok (.iconst 1, 1) := by decide +kernel
theorem d_X1_hasStone_13 : decode m_X1_hasStone.2.1 13 = .ok (.goto 4, 3) := by decide +kernel
theorem d_X1_hasStone_16 : decode m_X1_hasStone.2.1 16 = .ok (.iconst 0, 1) := by decide +kernel
theorem d_X1_hasStone_17 : decode m_X1_hasStone.2.1 17 = .ok (.ireturn, 1) := by decide +kernel
theorem d_X1_empty_0 : decode m_X1_empty.2.1 0 = .ok (.aload_n 0, 1) := by decide +kernel
theorem d_X1_empty_1 : decode m_X1_empty.2.1 1 = .ok (.iconst 0, 1) := by decide +kernel
theorem d_X1_empty_2 : decode m_X1_empty.2.1 2 = .ok (.putfield 23, 3) := by decide +kernel
theorem d_X1_empty_5 : decode m_X1_empty.2.1 5 = .ok (.aload_n 0, 1) := by decide +kernel
theorem d_X1_empty_6 : decode m_X1_empty.2.1 6 = .ok (.iconst 0, 1) := by decide +kernel
theorem d_X1_empty_7 : decode m_X1_empty.2.1 7 = .ok (.putfield 27, 3) := by decide +kernel
theorem d_X1_empty_10 : decode m_X1_empty.2.1 10 = .ok (.aload_n 0, 1) := by decide +kernel
theorem d_X1_empty_11 : decode m_X1_empty.2.1 11 = .ok (.iconst 0, 1) := by decide +kernel
theorem d_X1_empty_12 : decode m_X1_empty.2.1 12 = .ok (.putfield 30, 3) := by decide +kernel
theorem d_X1_empty_15 : decode m_X1_empty.2.1 15 = .ok (.aload_n 0, 1) := by decide +kernel
theorem d_X1_empty_16 : decode m_X1_empty.2.1 16 = .ok (.iconst 0, 1) := by decide +kernel
theorem d_X1_empty_17 : decode m_X1_empty.2.1 17 = .ok (.putfield 33, 3) := by decide +kernel
theorem d_X1_empty_20 : decode m_X1_empty.2.1 20 = .ok (.return_, 1) := by decide +kernel
theorem d_X1_addHouse_0 : decode m_X1_addHouse.2.1 0 = .ok (.aload_n 0, 1) := by decide +kernel
theorem d_X1_addHouse_1 : decode m_X1_addHouse.2.1 1 = .ok (.getfield 23, 3) := by decide +kernel
theorem d_X1_addHouse_4 : decode m_X1_addHouse.2.1 4 = .ok (.iconst 5, 1) := by decide +kernel
theorem d_X1_addHouse_5 : decode m_X1_addHouse.2.1 5 = .ok (.if_icmp .lt 4, 3) := by decide +kernel
theorem d_X1_addHouse_8 : decode m_X1_addHouse.2.1 8 = .ok (.return_, 1) := by decide +kernel
theorem d_X1_addHouse_9 : decode m_X1_addHouse.2.1 9 = .ok (.aload_n 0, 1) := by decide +kernel
theorem d_X1_addHouse_10 : decode m_X1_addHouse.2.1 10 = .ok (.getfield 13, 3) := by decide +kernel
theorem d_X1_addHouse_13 : decode m_X1_addHouse.2.1 13 = .ok (.aload_n 0, 1) := by decide +kernel
theorem d_X1_addHouse_14 : decode m_X1_addHouse.2.1 14 = .ok (.getfield 23, 3) := by decide +kernel
theorem d_X1_addHouse_17 : decode m_X1_addHouse.2.1 17 = .ok (.aaload, 1) := by decide +kernel
theorem d_X1_addHouse_18 : decode m_X1_addHouse.2.1 18 = .ok (.astore 4, 2) := by decide +kernel
theorem d_X1_addHouse_20 : decode m_X1_addHouse.2.1 20 = .ok (.aload 4, 2) := by decide +kernel
theorem d_X1_addHouse_22 : decode m_X1_addHouse.2.1 22 = .ok (.iload_n 1, 1) := by decide +kernel
theorem d_X1_addHouse_23 : decode m_X1_addHouse.2.1 23 = .ok (.putfield 38, 3) := by decide +kernel
theorem d_X1_addHouse_26 : decode m_X1_addHouse.2.1 26 = .ok (.aload 4, 2) := by decide +kernel
theorem d_X1_addHouse_28 : decode m_X1_addHouse.2.1 28 = .ok (.iload_n 2, 1) := by decide +kernel
theorem d_X1_addHouse_29 : decode m_X1_addHouse.2.1 29 = .ok (.putfield 41, 3) := by decide +kernel
theorem d_X1_addHouse_32 : decode m_X1_addHouse.2.1 32 = .ok (.aload 4, 2) := by decide +kernel
theorem d_X1_addHouse_34 : decode m_X1_addHouse.2.1 34 = .ok (.iload_n 3, 1) := by decide +kernel
theorem d_X1_addHouse_35 : decode m_X1_addHouse.2.1 35 = .ok (.putfield 44, 3) := by decide +kernel
theorem d_X1_addHouse_38 : decode m_X1_addHouse.2.1 38 = .ok (.aload 4, 2) := by decide +kernel
theorem d_X1_addHouse_40 : decode m_X1_addHouse.2.1 40 = .ok (.iconst 0, 1) := by decide +kernel
theorem d_X1_addHouse_41 : decode m_X1_addHouse.2.1 41 = .ok (.putfield 47, 3) := by decide +kernel
theorem d_X1_addHouse_44 : decode m_X1_addHouse.2.1 44 = .ok (.aload 4, 2) := by decide +kernel
theorem d_X1_addHouse_46 : decode m_X1_addHouse.2.1 46 = .ok (.iconst 0, 1) := by decide +kernel
theorem d_X1_addHouse_47 : decode m_X1_addHouse.2.1 47 = .ok (.putfield 50, 3) := by decide +kernel
theorem d_X1_addHouse_50 : decode m_X1_addHouse.2.1 50 = .ok (.aload_n 0, 1) := by decide +kernel
theorem d_X1_addHouse_51 : decode m_X1_addHouse.2.1 51 = .ok (.dup, 1) := by decide +kernel
theorem d_X1_addHouse_52 : decode m_X1_addHouse.2.1 52 = .ok (.getfield 23, 3) := by decide +kernel
theorem d_X1_addHouse_55 : decode m_X1_addHouse.2.1 55 = .ok (.iconst 1, 1) := by decide +kernel
theorem d_X1_addHouse_56 : decode m_X1_addHouse.2.1 56 = .ok (.iadd, 1) := by decide +kernel
theorem d_X1_addHouse_57 : decode m_X1_addHouse.2.1 57 = .ok (.putfield 23, 3) := by decide +kernel
theorem d_X1_addHouse_60 : decode m_X1_addHouse.2.1 60 = .ok (.return_, 1) := by decide +kernel
theorem d_X1_addStone_0 : decode m_X1_addStone.2.1 0 = .ok (.aload_n 0, 1) := by decide +kernel
theorem d_X1_addStone_1 : decode m_X1_addStone.2.1 1 = .ok (.getfield 27, 3) := by decide +kernel
theorem d_X1_addStone_4 : decode m_X1_addStone.2.1 4 = .ok (.iconst 4, 1) := by decide +kernel
theorem d_X1_addStone_5 : decode m_X1_addStone.2.1 5 = .ok (.if_icmp .lt 4, 3) := by decide +kernel
theorem d_X1_addStone_8 : decode m_X1_addStone.2.1 8 = .ok (.return_, 1) := by decide +kernel
theorem d_X1_addStone_9 : decode m_X1_addStone.2.1 9 = .ok (.aload_n 0, 1) := by decide +kernel
theorem d_X1_addStone_10 : decode m_X1_addStone.2.1 10 = .ok (.getfield 19, 3) := by decide +kernel
theorem d_X1_addStone_13 : decode m_X1_addStone.2.1 13 = .ok (.aload_n 0, 1) := by decide +kernel
theorem d_X1_addStone_14 : decode m_X1_addStone.2.1 14 = .ok (.getfield 27, 3) := by decide +kernel
theorem d_X1_addStone_17 : decode m_X1_addStone.2.1 17 = .ok (.aaload, 1) := by decide +kernel
theorem d_X1_addStone_18 : decode m_X1_addStone.2.1 18 = .ok (.iload_n 1, 1) := by decide +kernel
theorem d_X1_addStone_19 : decode m_X1_addStone.2.1 19 = .ok (.putfield 54, 3) := by decide +kernel
theorem d_X1_addStone_22 : decode m_X1_addStone.2.1 22 = .ok (.aload_n 0, 1) := by decide +kernel
theorem d_X1_addStone_23 : decode m_X1_addStone.2.1 23 = .ok (.getfield 19, 3) := by decide +kernel
theorem d_X1_addStone_26 : decode m_X1_addStone.2.1 26 = .ok (.aload_n 0, 1) := by decide +kernel
theorem d_X1_addStone_27 : decode m_X1_addStone.2.1 27 = .ok (.getfield 27, 3) := by decide +kernel
theorem d_X1_addStone_30 : decode m_X1_addStone.2.1 30 = .ok (.aaload, 1) := by decide +kernel
theorem d_X1_addStone_31 : decode m_X1_addStone.2.1 31 = .ok (.iconst 0, 1) := by decide +kernel
theorem d_X1_addStone_32 : decode m_X1_addStone.2.1 32 = .ok (.putfield 57, 3) := by decide +kernel
theorem d_X1_addStone_35 : decode m_X1_addStone.2.1 35 = .ok (.aload_n 0, 1) := by decide +kernel
theorem d_X1_addStone_36 : decode m_X1_addStone.2.1 36 = .ok (.dup, 1) := by decide +kernel
theorem d_X1_addStone_37 : decode m_X1_addStone.2.1 37 = .ok (.getfield 27, 3) := by decide +kernel
theorem d_X1_addStone_40 : decode m_X1_addStone.2.1 40 = .ok (.iconst 1, 1) := by decide +kernel
theorem d_X1_addStone_41 : decode m_X1_addStone.2.1 41 = .ok (.iadd, 1) := by decide +kernel
theorem d_X1_addStone_42 : decode m_X1_addStone.2.1 42 = .ok (.putfield 27, 3) := by decide +kernel
theorem d_X1_addStone_45 : decode m_X1_addStone.2.1 45 = .ok (.return_, 1) := by decide +kernel
theorem d_X1_become_0 : decode m_X1_become.2.1 0 = .ok (.aload_n 0, 1) := by decide +kernel
theorem d_X1_become_1 : decode m_X1_become.2.1 1 = .ok (.aload_n 1, 1) := by decide +kernel
theorem d_X1_become_2 : decode m_X1_become.2.1 2 = .ok (.getfield 23, 3) := by decide +kernel
theorem d_X1_become_5 : decode m_X1_become.2.1 5 = .ok (.putfield 23, 3) := by decide +kernel
theorem d_X1_become_8 : decode m_X1_become.2.1 8 = .ok (.aload_n 0, 1) := by decide +kernel
theorem d_X1_become_9 : decode m_X1_become.2.1 9 = .ok (.aload_n 1, 1) := by decide +kernel
theorem d_X1_become_10 : decode m_X1_become.2.1 10 = .ok (.getfield 27, 3) := by decide +kernel
theorem d_X1_become_13 : decode m_X1_become.2.1 13 = .ok (.putfield 27, 3) := by decide +kernel
theorem d_X1_become_16 : decode m_X1_become.2.1 16 = .ok (.aload_n 0, 1) := by decide +kernel
theorem d_X1_become_17 : decode m_X1_become.2.1 17 = .ok (.aload_n 1, 1) := by decide +kernel
theorem d_X1_become_18 : decode m_X1_become.2.1 18 = .ok (.getfield 30, 3) := by decide +kernel
theorem d_X1_become_21 : decode m_X1_become.2.1 21 = .ok (.putfield 30, 3) := by decide +kernel
theorem d_X1_become_24 : decode m_X1_become.2.1 24 = .ok (.aload_n 0, 1) := by decide +kernel
theorem d_X1_become_25 : decode m_X1_become.2.1 25 = .ok (.aload_n 1, 1) := by decide +kernel
theorem d_X1_become_26 : decode m_X1_become.2.1 26 = .ok (.getfield 33, 3) := by decide +kernel
theorem d_X1_become_29 : decode m_X1_become.2.1 29 = .ok (.putfield 33, 3) := by decide +kernel
theorem d_X1_become_32 : decode m_X1_become.2.1 32 = .ok (.iconst 0, 1) := by decide +kernel
theorem d_X1_become_33 : decode m_X1_become.2.1 33 = .ok (.istore_n 2, 1) := by decide +kernel
theorem d_X1_become_34 : decode m_X1_become.2.1 34 = .ok (.iload_n 2, 1) := by decide +kernel
theorem d_X1_become_35 : decode m_X1_become.2.1 35 = .ok (.aload_n 0, 1) := by decide +kernel
theorem d_X1_become_36 : decode m_X1_become.2.1 36 = .ok (.getfield 23, 3) := by decide +kernel
theorem d_X1_become_39 : decode m_X1_become.2.1 39 = .ok (.if_icmp .ge 24, 3) := by decide +kernel
theorem d_X1_become_42 : decode m_X1_become.2.1 42 = .ok (.aload_n 0, 1) := by decide +kernel
theorem d_X1_become_43 : decode m_X1_become.2.1 43 = .ok (.getfield 13, 3) := by decide +kernel
theorem d_X1_become_46 : decode m_X1_become.2.1 46 = .ok (.iload_n 2, 1) := by decide +kernel
theorem d_X1_become_47 : decode m_X1_become.2.1 47 = .ok (.aaload, 1) := by decide +kernel
theorem d_X1_become_48 : decode m_X1_become.2.1 48 = .ok (.aload_n 1, 1) := by decide +kernel
theorem d_X1_become_49 : decode m_X1_become.2.1 49 = .ok (.getfield 13, 3) := by decide +kernel
theorem d_X1_become_52 : decode m_X1_become.2.1 52 = .ok (.iload_n 2, 1) := by decide +kernel
theorem d_X1_become_53 : decode m_X1_become.2.1 53 = .ok (.aaload, 1) := by decide +kernel
theorem d_X1_become_54 : decode m_X1_become.2.1 54 = .ok (.invokevirtual 60, 3) := by decide +kernel
theorem d_X1_become_57 : decode m_X1_become.2.1 57 = .ok (.iinc 2 1, 3) := by decide +kernel
theorem d_X1_become_60 : decode m_X1_become.2.1 60 = .ok (.goto (-26), 3) := by decide +kernel
theorem d_X1_become_63 : decode m_X1_become.2.1 63 = .ok (.iconst 0, 1) := by decide +kernel
theorem d_X1_become_64 : decode m_X1_become.2.1 64 = .ok (.istore_n 2, 1) := by decide +kernel
theorem d_X1_become_65 : decode m_X1_become.2.1 65 = .ok (.iload_n 2, 1) := by decide +kernel
theorem d_X1_become_66 : decode m_X1_become.2.1 66 = .ok (.aload_n 0, 1) := by decide +kernel
theorem d_X1_become_67 : decode m_X1_become.2.1 67 = .ok (.getfield 27, 3) := by decide +kernel
theorem d_X1_become_70 : decode m_X1_become.2.1 70 = .ok (.if_icmp .ge 24, 3) := by decide +kernel
theorem d_X1_become_73 : decode m_X1_become.2.1 73 = .ok (.aload_n 0, 1) := by decide +kernel
theorem d_X1_become_74 : decode m_X1_become.2.1 74 = .ok (.getfield 19, 3) := by decide +kernel
theorem d_X1_become_77 : decode m_X1_become.2.1 77 = .ok (.iload_n 2, 1) := by decide +kernel
theorem d_X1_become_78 : decode m_X1_become.2.1 78 = .ok (.aaload, 1) := by decide +kernel
theorem d_X1_become_79 : decode m_X1_become.2.1 79 = .ok (.aload_n 1, 1) := by decide +kernel
theorem d_X1_become_80 : decode m_X1_become.2.1 80 = .ok (.getfield 19, 3) := by decide +kernel
theorem d_X1_become_83 : decode m_X1_become.2.1 83 = .ok (.iload_n 2, 1) := by decide +kernel
theorem d_X1_become_84 : decode m_X1_become.2.1 84 = .ok (.aaload, 1) := by decide +kernel
theorem d_X1_become_85 : decode m_X1_become.2.1 85 = .ok (.invokevirtual 64, 3) := by decide +kernel
theorem d_X1_become_88 : decode m_X1_become.2.1 88 = .ok (.iinc 2 1, 3) := by decide +kernel
theorem d_X1_become_91 : decode m_X1_become.2.1 91 = .ok (.goto (-26), 3) := by decide +kernel
theorem d_X1_become_94 : decode m_X1_become.2.1 94 = .ok (.return_, 1) := by decide +kernel
theorem d_X1_voice_0 : decode m_X1_voice.2.1 0 = .ok (.iconst 0, 1) := by decide +kernel
theorem d_X1_voice_1 : decode m_X1_voice.2.1 1 = .ok (.istore_n 1, 1) := by decide +kernel
theorem d_X1_voice_2 : decode m_X1_voice.2.1 2 = .ok (.iconst 0, 1) := by decide +kernel
theorem d_X1_voice_3 : decode m_X1_voice.2.1 3 = .ok (.istore_n 2, 1) := by decide +kernel
theorem d_X1_voice_4 : decode m_X1_voice.2.1 4 = .ok (.iload_n 2, 1) := by decide +kernel
theorem d_X1_voice_5 : decode m_X1_voice.2.1 5 = .ok (.aload_n 0, 1) := by decide +kernel
theorem d_X1_voice_6 : decode m_X1_voice.2.1 6 = .ok (.getfield 23, 3) := by decide +kernel
theorem d_X1_voice_9 : decode m_X1_voice.2.1 9 = .ok (.if_icmp .ge 37, 3) := by decide +kernel
theorem d_X1_voice_12 : decode m_X1_voice.2.1 12 = .ok (.iload_n 1, 1) := by decide +kernel
theorem d_X1_voice_13 : decode m_X1_voice.2.1 13 = .ok (.aload_n 0, 1) := by decide +kernel
theorem d_X1_voice_14 : decode m_X1_voice.2.1 14 = .ok (.getfield 13, 3) := by decide +kernel
theorem d_X1_voice_17 : decode m_X1_voice.2.1 17 = .ok (.iload_n 2, 1) := by decide +kernel
theorem d_X1_voice_18 : decode m_X1_voice.2.1 18 = .ok (.aaload, 1) := by decide +kernel
theorem d_X1_voice_19 : decode m_X1_voice.2.1 19 = .ok (.invokevirtual 67, 3) := by decide +kernel
theorem d_X1_voice_22 : decode m_X1_voice.2.1 22 = .ok (.ifCond .eq 15, 3) := by decide +kernel
theorem d_X1_voice_25 : decode m_X1_voice.2.1 25 = .ok (.aload_n 0, 1) := by decide +kernel
theorem d_X1_voice_26 : decode m_X1_voice.2.1 26 = .ok (.getfield 13, 3) := by decide +kernel
theorem d_X1_voice_29 : decode m_X1_voice.2.1 29 = .ok (.iload_n 2, 1) := by decide +kernel
theorem d_X1_voice_30 : decode m_X1_voice.2.1 30 = .ok (.aaload, 1) := by decide +kernel
theorem d_X1_voice_31 : decode m_X1_voice.2.1 31 = .ok (.invokevirtual 71, 3) := by decide +kernel
theorem d_X1_voice_34 : decode m_X1_voice.2.1 34 = .ok (.goto 4, 3) := by decide +kernel
theorem d_X1_voice_37 : decode m_X1_voice.2.1 37 = .ok (.iconst 0, 1) := by decide +kernel
theorem d_X1_voice_38 : decode m_X1_voice.2.1 38 = .ok (.iadd, 1) := by decide +kernel
theorem d_X1_voice_39 : decode m_X1_voice.2.1 39 = .ok (.istore_n 1, 1) := by decide +kernel
theorem d_X1_voice_40 : decode m_X1_voice.2.1 40 = .ok (.iinc 2 1, 3) := by decide +kernel
theorem d_X1_voice_43 : decode m_X1_voice.2.1 43 = .ok (.goto (-39), 3) := by decide +kernel
theorem d_X1_voice_46 : decode m_X1_voice.2.1 46 = .ok (.iconst 0, 1) := by decide +kernel
theorem d_X1_voice_47 : decode m_X1_voice.2.1 47 = .ok (.istore_n 2, 1) := by decide +kernel
theorem d_X1_voice_48 : decode m_X1_voice.2.1 48 = .ok (.iload_n 2, 1) := by decide +kernel
theorem d_X1_voice_49 : decode m_X1_voice.2.1 49 = .ok (.aload_n 0, 1) := by decide +kernel
theorem d_X1_voice_50 : decode m_X1_voice.2.1 50 = .ok (.getfield 27, 3) := by decide +kernel
theorem d_X1_voice_53 : decode m_X1_voice.2.1 53 = .ok (.if_icmp .ge 37, 3) := by decide +kernel
theorem d_X1_voice_56 : decode m_X1_voice.2.1 56 = .ok (.iload_n 1, 1) := by decide +kernel
theorem d_X1_voice_57 : decode m_X1_voice.2.1 57 = .ok (.aload_n 0, 1) := by decide +kernel
theorem d_X1_voice_58 : decode m_X1_voice.2.1 58 = .ok (.getfield 19, 3) := by decide +kernel
theorem d_X1_voice_61 : decode m_X1_voice.2.1 61 = .ok (.iload_n 2, 1) := by decide +kernel
theorem d_X1_voice_62 : decode m_X1_voice.2.1 62 = .ok (.aaload, 1) := by decide +kernel
theorem d_X1_voice_63 : decode m_X1_voice.2.1 63 = .ok (.getfield 57, 3) := by decide +kernel
theorem d_X1_voice_66 : decode m_X1_voice.2.1 66 = .ok (.ifCond .eq 7, 3) := by decide +kernel
theorem d_X1_voice_69 : decode m_X1_voice.2.1 69 = .ok (.iconst 0, 1) := by decide +kernel
theorem d_X1_voice_70 : decode m_X1_voice.2.1 70 = .ok (.goto 12, 3) := by decide +kernel
theorem d_X1_voice_73 : decode m_X1_voice.2.1 73 = .ok (.aload_n 0, 1) := by decide +kernel
theorem d_X1_voice_74 : decode m_X1_voice.2.1 74 = .ok (.getfield 19, 3) := by decide +kernel
theorem d_X1_voice_77 : decode m_X1_voice.2.1 77 = .ok (.iload_n 2, 1) := by decide +kernel
theorem d_X1_voice_78 : decode m_X1_voice.2.1 78 = .ok (.aaload, 1) := by decide +kernel
theorem d_X1_voice_79 : decode m_X1_voice.2.1 79 = .ok (.getfield 54, 3) := by decide +kernel
theorem d_X1_voice_82 : decode m_X1_voice.2.1 82 = .ok (.iadd, 1) := by decide +kernel
theorem d_X1_voice_83 : decode m_X1_voice.2.1 83 = .ok (.istore_n 1, 1) := by decide +kernel
theorem d_X1_voice_84 : decode m_X1_voice.2.1 84 = .ok (.iinc 2 1, 3) := by decide +kernel
theorem d_X1_voice_87 : decode m_X1_voice.2.1 87 = .ok (.goto (-39), 3) := by decide +kernel
theorem d_X1_voice_90 : decode m_X1_voice.2.1 90 = .ok (.iload_n 1, 1) := by decide +kernel
theorem d_X1_voice_91 : decode m_X1_voice.2.1 91 = .ok (.ireturn, 1) := by decide +kernel
theorem d_X1_hatsLost_0 : decode m_X1_hatsLost.2.1 0 = .ok (.iconst 0, 1) := by decide +kernel
theorem d_X1_hatsLost_1 : decode m_X1_hatsLost.2.1 1 = .ok (.istore_n 1, 1) := by decide +kernel
theorem d_X1_hatsLost_2 : decode m_X1_hatsLost.2.1 2 = .ok (.iconst 0, 1) := by decide +kernel
theorem d_X1_hatsLost_3 : decode m_X1_hatsLost.2.1 3 = .ok (.istore_n 2, 1) := by decide +kernel
theorem d_X1_hatsLost_4 : decode m_X1_hatsLost.2.1 4 = .ok (.iload_n 2, 1) := by decide +kernel
theorem d_X1_hatsLost_5 : decode m_X1_hatsLost.2.1 5 = .ok (.aload_n 0, 1) := by decide +kernel
theorem d_X1_hatsLost_6 : decode m_X1_hatsLost.2.1 6 = .ok (.getfield 23, 3) := by decide +kernel
theorem d_X1_hatsLost_9 : decode m_X1_hatsLost.2.1 9 = .ok (.if_icmp .ge 21, 3) := by decide +kernel
theorem d_X1_hatsLost_12 : decode m_X1_hatsLost.2.1 12 = .ok (.iload_n 1, 1) := by decide +kernel
theorem d_X1_hatsLost_13 : decode m_X1_hatsLost.2.1 13 = .ok (.aload_n 0, 1) := by decide +kernel
theorem d_X1_hatsLost_14 : decode m_X1_hatsLost.2.1 14 = .ok (.getfield 13, 3) := by decide +kernel
theorem d_X1_hatsLost_17 : decode m_X1_hatsLost.2.1 17 = .ok (.iload_n 2, 1) := by decide +kernel
theorem d_X1_hatsLost_18 : decode m_X1_hatsLost.2.1 18 = .ok (.aaload, 1) := by decide +kernel
theorem d_X1_hatsLost_19 : decode m_X1_hatsLost.2.1 19 = .ok (.getfield 47, 3) := by decide +kernel
theorem d_X1_hatsLost_22 : decode m_X1_hatsLost.2.1 22 = .ok (.iadd, 1) := by decide +kernel
theorem d_X1_hatsLost_23 : decode m_X1_hatsLost.2.1 23 = .ok (.istore_n 1, 1) := by decide +kernel
theorem d_X1_hatsLost_24 : decode m_X1_hatsLost.2.1 24 = .ok (.iinc 2 1, 3) := by decide +kernel
theorem d_X1_hatsLost_27 : decode m_X1_hatsLost.2.1 27 = .ok (.goto (-23), 3) := by decide +kernel
theorem d_X1_hatsLost_30 : decode m_X1_hatsLost.2.1 30 = .ok (.iload_n 1, 1) := by decide +kernel
theorem d_X1_hatsLost_31 : decode m_X1_hatsLost.2.1 31 = .ok (.ireturn, 1) := by decide +kernel
theorem d_X1_ranklingSet_0 : decode m_X1_ranklingSet.2.1 0 = .ok (.iconst 0, 1) := by decide +kernel
theorem d_X1_ranklingSet_1 : decode m_X1_ranklingSet.2.1 1 = .ok (.istore_n 1, 1) := by decide +kernel
theorem d_X1_ranklingSet_2 : decode m_X1_ranklingSet.2.1 2 = .ok (.iconst 0, 1) := by decide +kernel
theorem d_X1_ranklingSet_3 : decode m_X1_ranklingSet.2.1 3 = .ok (.istore_n 2, 1) := by decide +kernel
theorem d_X1_ranklingSet_4 : decode m_X1_ranklingSet.2.1 4 = .ok (.iload_n 2, 1) := by decide +kernel
theorem d_X1_ranklingSet_5 : decode m_X1_ranklingSet.2.1 5 = .ok (.aload_n 0, 1) := by decide +kernel
theorem d_X1_ranklingSet_6 : decode m_X1_ranklingSet.2.1 6 = .ok (.getfield 23, 3) := by decide +kernel
theorem d_X1_ranklingSet_9 : decode m_X1_ranklingSet.2.1 9 = .ok (.if_icmp .ge 27, 3) := by decide +kernel
theorem d_X1_ranklingSet_12 : decode m_X1_ranklingSet.2.1 12 = .ok (.aload_n 0, 1) := by decide +kernel
theorem d_X1_ranklingSet_13 : decode m_X1_ranklingSet.2.1 13 = .ok (.getfield 13, 3) := by decide +kernel
theorem d_X1_ranklingSet_16 : decode m_X1_ranklingSet.2.1 16 = .ok (.iload_n 2, 1) := by decide +kernel
theorem d_X1_ranklingSet_17 : decode m_X1_ranklingSet.2.1 17 = .ok (.aaload, 1) := by decide +kernel
theorem d_X1_ranklingSet_18 : decode m_X1_ranklingSet.2.1 18 = .ok (.invokevirtual 67, 3) := by decide +kernel
theorem d_X1_ranklingSet_21 : decode m_X1_ranklingSet.2.1 21 = .ok (.ifCond .eq 9, 3) := by decide +kernel
theorem d_X1_ranklingSet_24 : decode m_X1_ranklingSet.2.1 24 = .ok (.iload_n 1, 1) := by decide +kernel
theorem d_X1_ranklingSet_25 : decode m_X1_ranklingSet.2.1 25 = .ok (.iconst 1, 1) := by decide +kernel
theorem d_X1_ranklingSet_26 : decode m_X1_ranklingSet.2.1 26 = .ok (.iload_n 2, 1) := by decide +kernel
theorem d_X1_ranklingSet_27 : decode m_X1_ranklingSet.2.1 27 = .ok (.ishl, 1) := by decide +kernel
theorem d_X1_ranklingSet_28 : decode m_X1_ranklingSet.2.1 28 = .ok (.ior, 1) := by decide +kernel
theorem d_X1_ranklingSet_29 : decode m_X1_ranklingSet.2.1 29 = .ok (.istore_n 1, 1) := by decide +kernel
theorem d_X1_ranklingSet_30 : decode m_X1_ranklingSet.2.1 30 = .ok (.iinc 2 1, 3) := by decide +kernel
theorem d_X1_ranklingSet_33 : decode m_X1_ranklingSet.2.1 33 = .ok (.goto (-29), 3) := by decide +kernel
theorem d_X1_ranklingSet_36 : decode m_X1_ranklingSet.2.1 36 = .ok (.iload_n 1, 1) := by decide +kernel
theorem d_X1_ranklingSet_37 : decode m_X1_ranklingSet.2.1 37 = .ok (.ireturn, 1) := by decide +kernel
theorem d_X1_setCount_0 : decode m_X1_setCount.2.1 0 = .ok (.iconst 1, 1) := by decide +kernel
theorem d_X1_setCount_1 : decode m_X1_setCount.2.1 1 = .ok (.aload_n 0, 1) := by decide +kernel
theorem d_X1_setCount_2 : decode m_X1_setCount.2.1 2 = .ok (.getfield 23, 3) := by decide +kernel
theorem d_X1_setCount_5 : decode m_X1_setCount.2.1 5 = .ok (.ishl, 1) := by decide +kernel
theorem d_X1_setCount_6 : decode m_X1_setCount.2.1 6 = .ok (.ireturn, 1) := by decide +kernel
theorem d_X1_doesSetRankle_0 : decode m_X1_doesSetRankle.2.1 0 = .ok (.iload_n 1, 1) := by decide +kernel
theorem d_X1_doesSetRankle_1 : decode m_X1_doesSetRankle.2.1 1 = .ok (.aload_n 0, 1) := by decide +kernel
theorem d_X1_doesSetRankle_2 : decode m_X1_doesSetRankle.2.1 2 = .ok (.invokevirtual 75, 3) := by decide +kernel
theorem d_X1_doesSetRankle_5 : decode m_X1_doesSetRankle.2.1 5 = .ok (.iconst (-1), 1) := by decide +kernel
theorem d_X1_doesSetRankle_6 : decode m_X1_doesSetRankle.2.1 6 = .ok (.ixor, 1) := by decide +kernel
theorem d_X1_doesSetRankle_7 : decode m_X1_doesSetRankle.2.1 7 = .ok (.iand, 1) := by decide +kernel
theorem d_X1_doesSetRankle_8 : decode m_X1_doesSetRankle.2.1 8 = .ok (.ifCond .ne 7, 3) := by decide +kernel
theorem d_X1_doesSetRankle_11 : decode m_X1_doesSetRankle.2.1 11 = .ok (.iconst 1, 1) := by decide +kernel
theorem d_X1_doesSetRankle_12 : decode m_X1_doesSetRankle.2.1 12 = .ok (.goto 4, 3) := by decide +kernel
theorem d_X1_doesSetRankle_15 : decode m_X1_doesSetRankle.2.1 15 = .ok (.iconst 0, 1) := by decide +kernel
theorem d_X1_doesSetRankle_16 : decode m_X1_doesSetRankle.2.1 16 = .ok (.ireturn, 1) := by decide +kernel
theorem d_X1_weightOfSet_0 : decode m_X1_weightOfSet.2.1 0 = .ok (.iconst 0, 1) := by decide +kernel
theorem d_X1_weightOfSet_1 : decode m_X1_weightOfSet.2.1 1 = .ok (.istore_n 2, 1) := by decide +kernel
theorem d_X1_weightOfSet_2 : decode m_X1_weightOfSet.2.1 2 = .ok (.iconst 0, 1) := by decide +kernel
theorem d_X1_weightOfSet_3 : decode m_X1_weightOfSet.2.1 3 = .ok (.istore_n 3, 1) := by decide +kernel
theorem d_X1_weightOfSet_4 : decode m_X1_weightOfSet.2.1 4 = .ok (.iload_n 3, 1) := by decide +kernel
theorem d_X1_weightOfSet_5 : decode m_X1_weightOfSet.2.1 5 = .ok (.aload_n 0, 1) := by decide +kernel
theorem d_X1_weightOfSet_6 : decode m_X1_weightOfSet.2.1 6 = .ok (.getfield 23, 3) := by decide +kernel
theorem d_X1_weightOfSet_9 : decode m_X1_weightOfSet.2.1 9 = .ok (.if_icmp .ge 33, 3) := by decide +kernel
theorem d_X1_weightOfSet_12 : decode m_X1_weightOfSet.2.1 12 = .ok (.iload_n 2, 1) := by decide +kernel
theorem d_X1_weightOfSet_13 : decode m_X1_weightOfSet.2.1 13 = .ok (.iload_n 1, 1) := by decide +kernel
theorem d_X1_weightOfSet_14 : decode m_X1_weightOfSet.2.1 14 = .ok (.iload_n 3, 1) := by decide +kernel
theorem d_X1_weightOfSet_15 : decode m_X1_weightOfSet.2.1 15 = .ok (.ishr, 1) := by decide +kernel
theorem d_X1_weightOfSet_16 : decode m_X1_weightOfSet.2.1 16 = .ok (.iconst 1, 1) := by decide +kernel
theorem d_X1_weightOfSet_17 : decode m_X1_weightOfSet.2.1 17 = .ok (.iand, 1) := by decide +kernel
theorem d_X1_weightOfSet_18 : decode m_X1_weightOfSet.2.1 18 = .ok (.ifCond .eq 15, 3) := by decide +kernel
theorem d_X1_weightOfSet_21 : decode m_X1_weightOfSet.2.1 21 = .ok (.aload_n 0, 1) := by decide +kernel
theorem d_X1_weightOfSet_22 : decode m_X1_weightOfSet.2.1 22 = .ok (.getfield 13, 3) := by decide +kernel
theorem d_X1_weightOfSet_25 : decode m_X1_weightOfSet.2.1 25 = .ok (.iload_n 3, 1) := by decide +kernel
theorem d_X1_weightOfSet_26 : decode m_X1_weightOfSet.2.1 26 = .ok (.aaload, 1) := by decide +kernel
theorem d_X1_weightOfSet_27 : decode m_X1_weightOfSet.2.1 27 = .ok (.invokevirtual 71, 3) := by decide +kernel
theorem d_X1_weightOfSet_30 : decode m_X1_weightOfSet.2.1 30 = .ok (.goto 4, 3) := by decide +kernel
theorem d_X1_weightOfSet_33 : decode m_X1_weightOfSet.2.1 33 = .ok (.iconst 0, 1) := by decide +kernel
theorem d_X1_weightOfSet_34 : decode m_X1_weightOfSet.2.1 34 = .ok (.iadd, 1) := by decide +kernel
theorem d_X1_weightOfSet_35 : decode m_X1_weightOfSet.2.1 35 = .ok (.istore_n 2, 1) := by decide +kernel
theorem d_X1_weightOfSet_36 : decode m_X1_weightOfSet.2.1 36 = .ok (.iinc 3 1, 3) := by decide +kernel
theorem d_X1_weightOfSet_39 : decode m_X1_weightOfSet.2.1 39 = .ok (.goto (-35), 3) := by decide +kernel
theorem d_X1_weightOfSet_42 : decode m_X1_weightOfSet.2.1 42 = .ok (.iload_n 2, 1) := by decide +kernel
theorem d_X1_weightOfSet_43 : decode m_X1_weightOfSet.2.1 43 = .ok (.ireturn, 1) := by decide +kernel
theorem d_X1_ownUpAll_0 : decode m_X1_ownUpAll.2.1 0 = .ok (.iconst 0, 1) := by decide +kernel
theorem d_X1_ownUpAll_1 : decode m_X1_ownUpAll.2.1 1 = .ok (.istore_n 2, 1) := by decide +kernel
theorem d_X1_ownUpAll_2 : decode m_X1_ownUpAll.2.1 2 = .ok (.iload_n 2, 1) := by decide +kernel
theorem d_X1_ownUpAll_3 : decode m_X1_ownUpAll.2.1 3 = .ok (.aload_n 0, 1) := by decide +kernel
theorem d_X1_ownUpAll_4 : decode m_X1_ownUpAll.2.1 4 = .ok (.getfield 23, 3) := by decide +kernel
theorem d_X1_ownUpAll_7 : decode m_X1_ownUpAll.2.1 7 = .ok (.if_icmp .ge 27, 3) := by decide +kernel
theorem d_X1_ownUpAll_10 : decode m_X1_ownUpAll.2.1 10 = .ok (.iload_n 1, 1) := by decide +kernel
theorem d_X1_ownUpAll_11 : decode m_X1_ownUpAll.2.1 11 = .ok (.iload_n 2, 1) := by decide +kernel
theorem d_X1_ownUpAll_12 : decode m_X1_ownUpAll.2.1 12 = .ok (.ishr, 1) := by decide +kernel
theorem d_X1_ownUpAll_13 : decode m_X1_ownUpAll.2.1 13 = .ok (.iconst 1, 1) := by decide +kernel
theorem d_X1_ownUpAll_14 : decode m_X1_ownUpAll.2.1 14 = .ok (.iand, 1) := by decide +kernel
theorem d_X1_ownUpAll_15 : decode m_X1_ownUpAll.2.1 15 = .ok (.ifCond .eq 13, 3) := by decide +kernel
theorem d_X1_ownUpAll_18 : decode m_X1_ownUpAll.2.1 18 = .ok (.aload_n 0, 1) := by decide +kernel
theorem d_X1_ownUpAll_19 : decode m_X1_ownUpAll.2.1 19 = .ok (.getfield 13, 3) := by decide +kernel
theorem d_X1_ownUpAll_22 : decode m_X1_ownUpAll.2.1 22 = .ok (.iload_n 2, 1) := by decide +kernel
theorem d_X1_ownUpAll_23 : decode m_X1_ownUpAll.2.1 23 = .ok (.aaload, 1) := by decide +kernel
theorem d_X1_ownUpAll_24 : decode m_X1_ownUpAll.2.1 24 = .ok (.invokevirtual 78, 3) := by decide +kernel
theorem d_X1_ownUpAll_27 : decode m_X1_ownUpAll.2.1 27 = .ok (.pop, 1) := by decide +kernel
theorem d_X1_ownUpAll_28 : decode m_X1_ownUpAll.2.1 28 = .ok (.iinc 2 1, 3) := by decide +kernel
theorem d_X1_ownUpAll_31 : decode m_X1_ownUpAll.2.1 31 = .ok (.goto (-29), 3) := by decide +kernel
theorem d_X1_ownUpAll_34 : decode m_X1_ownUpAll.2.1 34 = .ok (.return_, 1) := by decide +kernel
theorem d_X1_passNight_0 : decode m_X1_passNight.2.1 0 = .ok (.aload_n 0, 1) := by decide +kernel
theorem d_X1_passNight_1 : decode m_X1_passNight.2.1 1 = .ok (.invokevirtual 81, 3) := by decide +kernel
theorem d_X1_passNight_4 : decode m_X1_passNight.2.1 4 = .ok (.ifCond .eq 14, 3) := by decide +kernel
theorem d_X1_passNight_7 : decode m_X1_passNight.2.1 7 = .ok (.aload_n 0, 1) := by decide +kernel
theorem d_X1_passNight_8 : decode m_X1_passNight.2.1 8 = .ok (.aload_n 0, 1) := by decide +kernel
theorem d_X1_passNight_9 : decode m_X1_passNight.2.1 9 = .ok (.getfield 33, 3) := by decide +kernel
theorem d_X1_passNight_12 : decode m_X1_passNight.2.1 12 = .ok (.invokevirtual 84, 3) := by decide +kernel
theorem d_X1_passNight_15 : decode m_X1_passNight.2.1 15 = .ok (.ifCond .ne 4, 3) := by decide +kernel
theorem d_X1_passNight_18 : decode m_X1_passNight.2.1 18 = .ok (.return_, 1) := by decide +kernel
theorem d_X1_passNight_19 : decode m_X1_passNight.2.1 19 = .ok (.aload_n 0, 1) := by decide +kernel
theorem d_X1_passNight_20 : decode m_X1_passNight.2.1 20 = .ok (.invokevirtual 88, 3) := by decide +kernel
theorem d_X1_passNight_23 : decode m_X1_passNight.2.1 23 = .ok (.aload_n 0, 1) := by decide +kernel
theorem d_X1_passNight_24 : decode m_X1_passNight.2.1 24 = .ok (.getfield 13, 3) := by decide +kernel
theorem d_X1_passNight_27 : decode m_X1_passNight.2.1 27 = .ok (.aload_n 0, 1) := by decide +kernel
theorem d_X1_passNight_28 : decode m_X1_passNight.2.1 28 = .ok (.getfield 33, 3) := by decide +kernel
theorem d_X1_passNight_31 : decode m_X1_passNight.2.1 31 = .ok (.aaload, 1) := by decide +kernel
theorem d_X1_passNight_32 : decode m_X1_passNight.2.1 32 = .ok (.getfield 44, 3) := by decide +kernel
theorem d_X1_passNight_35 : decode m_X1_passNight.2.1 35 = .ok (.ifCond .ne 16, 3) := by decide +kernel
theorem d_X1_passNight_38 : decode m_X1_passNight.2.1 38 = .ok (.aload_n 0, 1) := by decide +kernel
theorem d_X1_passNight_39 : decode m_X1_passNight.2.1 39 = .ok (.getfield 13, 3) := by decide +kernel
theorem d_X1_passNight_42 : decode m_X1_passNight.2.1 42 = .ok (.aload_n 0, 1) := by decide +kernel
theorem d_X1_passNight_43 : decode m_X1_passNight.2.1 43 = .ok (.getfield 33, 3) := by decide +kernel
theorem d_X1_passNight_46 : decode m_X1_passNight.2.1 46 = .ok (.aaload, 1) := by decide +kernel
theorem d_X1_passNight_47 : decode m_X1_passNight.2.1 47 = .ok (.invokevirtual 78, 3) := by decide +kernel
theorem d_X1_passNight_50 : decode m_X1_passNight.2.1 50 = .ok (.pop, 1) := by decide +kernel
theorem d_X1_passNight_51 : decode m_X1_passNight.2.1 51 = .ok (.aload_n 0, 1) := by decide +kernel
theorem d_X1_passNight_52 : decode m_X1_passNight.2.1 52 = .ok (.invokevirtual 75, 3) := by decide +kernel
theorem d_X1_passNight_55 : decode m_X1_passNight.2.1 55 = .ok (.ifCond .ne 7, 3) := by decide +kernel
theorem d_X1_passNight_58 : decode m_X1_passNight.2.1 58 = .ok (.aload_n 0, 1) := by decide +kernel
theorem d_X1_passNight_59 : decode m_X1_passNight.2.1 59 = .ok (.invokevirtual 91, 3) := by decide +kernel
theorem d_X1_passNight_62 : decode m_X1_passNight.2.1 62 = .ok (.aload_n 0, 1) := by decide +kernel
theorem d_X1_passNight_63 : decode m_X1_passNight.2.1 63 = .ok (.aload_n 0, 1) := by decide +kernel
theorem d_X1_passNight_64 : decode m_X1_passNight.2.1 64 = .ok (.getfield 33, 3) := by decide +kernel
theorem d_X1_passNight_67 : decode m_X1_passNight.2.1 67 = .ok (.aload_n 0, 1) := by decide +kernel
theorem d_X1_passNight_68 : decode m_X1_passNight.2.1 68 = .ok (.getfield 30, 3) := by decide +kernel
theorem d_X1_passNight_71 : decode m_X1_passNight.2.1 71 = .ok (.iadd, 1) := by decide +kernel
theorem d_X1_passNight_72 : decode m_X1_passNight.2.1 72 = .ok (.aload_n 0, 1) := by decide +kernel
theorem d_X1_passNight_73 : decode m_X1_passNight.2.1 73 = .ok (.getfield 23, 3) := by decide +kernel
theorem d_X1_passNight_76 : decode m_X1_passNight.2.1 76 = .ok (.irem, 1) := by decide +kernel
theorem d_X1_passNight_77 : decode m_X1_passNight.2.1 77 = .ok (.putfield 33, 3) := by decide +kernel
theorem d_X1_passNight_80 : decode m_X1_passNight.2.1 80 = .ok (.return_, 1) := by decide +kernel
theorem d_X1_passNights_0 : decode m_X1_passNights.2.1 0 = .ok (.iconst 0, 1) := by decide +kernel
theorem d_X1_passNights_1 : decode m_X1_passNights.2.1 1 = .ok (.istore_n 2, 1) := by decide +kernel
theorem d_X1_passNights_2 : decode m_X1_passNights.2.1 2 = .ok (.iload_n 2, 1) := by decide +kernel
theorem d_X1_passNights_3 : decode m_X1_passNights.2.1 3 = .ok (.iload_n 1, 1) := by decide +kernel
theorem d_X1_passNights_4 : decode m_X1_passNights.2.1 4 = .ok (.if_icmp .ge 13, 3) := by decide +kernel
theorem d_X1_passNights_7 : decode m_X1_passNights.2.1 7 = .ok (.aload_n 0, 1) := by decide +kernel
theorem d_X1_passNights_8 : decode m_X1_passNights.2.1 8 = .ok (.invokevirtual 94, 3) := by decide +kernel
theorem d_X1_passNights_11 : decode m_X1_passNights.2.1 11 = .ok (.iinc 2 1, 3) := by decide +kernel
theorem d_X1_passNights_14 : decode m_X1_passNights.2.1 14 = .ok (.goto (-12), 3) := by decide +kernel
theorem d_X1_passNights_17 : decode m_X1_passNights.2.1 17 = .ok (.return_, 1) := by decide +kernel
theorem d_X1_loseSleep_0 : decode m_X1_loseSleep.2.1 0 = .ok (.iconst 0, 1) := by decide +kernel
theorem d_X1_loseSleep_1 : decode m_X1_loseSleep.2.1 1 = .ok (.istore_n 1, 1) := by decide +kernel
theorem d_X1_loseSleep_2 : decode m_X1_loseSleep.2.1 2 = .ok (.iload_n 1, 1) := by decide +kernel
theorem d_X1_loseSleep_3 : decode m_X1_loseSleep.2.1 3 = .ok (.aload_n 0, 1) := by decide +kernel
theorem d_X1_loseSleep_4 : decode m_X1_loseSleep.2.1 4 = .ok (.getfield 23, 3) := by decide +kernel
theorem d_X1_loseSleep_7 : decode m_X1_loseSleep.2.1 7 = .ok (.if_icmp .ge 36, 3) := by decide +kernel
theorem d_X1_loseSleep_10 : decode m_X1_loseSleep.2.1 10 = .ok (.aload_n 0, 1) := by decide +kernel
theorem d_X1_loseSleep_11 : decode m_X1_loseSleep.2.1 11 = .ok (.getfield 13, 3) := by decide +kernel
theorem d_X1_loseSleep_14 : decode m_X1_loseSleep.2.1 14 = .ok (.iload_n 1, 1) := by decide +kernel
theorem d_X1_loseSleep_15 : decode m_X1_loseSleep.2.1 15 = .ok (.aaload, 1) := by decide +kernel
theorem d_X1_loseSleep_16 : decode m_X1_loseSleep.2.1 16 = .ok (.getfield 44, 3) := by decide +kernel
theorem d_X1_loseSleep_19 : decode m_X1_loseSleep.2.1 19 = .ok (.ifCond .le 18, 3) := by decide +kernel
theorem d_X1_loseSleep_22 : decode m_X1_loseSleep.2.1 22 = .ok (.aload_n 0, 1) := by decide +kernel
theorem d_X1_loseSleep_23 : decode m_X1_loseSleep.2.1 23 = .ok (.getfield 13, 3) := by decide +kernel
theorem d_X1_loseSleep_26 : decode m_X1_loseSleep.2.1 26 = .ok (.iload_n 1, 1) := by decide +kernel
theorem d_X1_loseSleep_27 : decode m_X1_loseSleep.2.1 27 = .ok (.aaload, 1) := by decide +kernel
theorem d_X1_loseSleep_28 : decode m_X1_loseSleep.2.1 28 = .ok (.dup, 1) := by decide +kernel
theorem d_X1_loseSleep_29 : decode m_X1_loseSleep.2.1 29 = .ok (.getfield 44, 3) := by decide +kernel
theorem d_X1_loseSleep_32 : decode m_X1_loseSleep.2.1 32 = .ok (.iconst 1, 1) := by decide +kernel
theorem d_X1_loseSleep_33 : decode m_X1_loseSleep.2.1 33 = .ok (.isub, 1) := by decide +kernel
theorem d_X1_loseSleep_34 : decode m_X1_loseSleep.2.1 34 = .ok (.putfield 44, 3) := by decide +kernel
theorem d_X1_loseSleep_37 : decode m_X1_loseSleep.2.1 37 = .ok (.iinc 1 1, 3) := by decide +kernel
theorem d_X1_loseSleep_40 : decode m_X1_loseSleep.2.1 40 = .ok (.goto (-38), 3) := by decide +kernel
theorem d_X1_loseSleep_43 : decode m_X1_loseSleep.2.1 43 = .ok (.return_, 1) := by decide +kernel
theorem d_X1_layHeaviestStone_0 : decode m_X1_layHeaviestStone.2.1 0 = .ok (.bipush (-9), 2) := by decide +kernel
theorem d_X1_layHeaviestStone_2 : decode m_X1_layHeaviestStone.2.1 2 = .ok (.istore_n 1, 1) := by decide +kernel
theorem d_X1_layHeaviestStone_3 : decode m_X1_layHeaviestStone.2.1 3 = .ok (.iconst 0, 1) := by decide +kernel
theorem d_X1_layHeaviestStone_4 : decode m_X1_layHeaviestStone.2.1 4 = .ok (.istore_n 2, 1) := by decide +kernel
theorem d_X1_layHeaviestStone_5 : decode m_X1_layHeaviestStone.2.1 5 = .ok (.iconst 0, 1) := by decide +kernel
theorem d_X1_layHeaviestStone_6 : decode m_X1_layHeaviestStone.2.1 6 = .ok (.istore_n 3, 1) := by decide +kernel
theorem d_X1_layHeaviestStone_7 : decode m_X1_layHeaviestStone.2.1 7 = .ok (.iload_n 3, 1) := by decide +kernel
theorem d_X1_layHeaviestStone_8 : decode m_X1_layHeaviestStone.2.1 8 = .ok (.aload_n 0, 1) := by decide +kernel
theorem d_X1_layHeaviestStone_9 : decode m_X1_layHeaviestStone.2.1 9 = .ok (.getfield 27, 3) := by decide +kernel
theorem d_X1_layHeaviestStone_12 : decode m_X1_layHeaviestStone.2.1 12 = .ok (.if_icmp .ge 46, 3) := by decide +kernel
theorem d_X1_layHeaviestStone_15 : decode m_X1_layHeaviestStone.2.1 15 = .ok (.aload_n 0, 1) := by decide +kernel
theorem d_X1_layHeaviestStone_16 : decode m_X1_layHeaviestStone.2.1 16 = .ok (.getfield 19, 3) := by decide +kernel
theorem d_X1_layHeaviestStone_19 : decode m_X1_layHeaviestStone.2.1 19 = .ok (.iload_n 3, 1) := by decide +kernel
theorem d_X1_layHeaviestStone_20 : decode m_X1_layHeaviestStone.2.1 20 = .ok (.aaload, 1) := by decide +kernel
theorem d_X1_layHeaviestStone_21 : decode m_X1_layHeaviestStone.2.1 21 = .ok (.getfield 57, 3) := by decide +kernel
theorem d_X1_layHeaviestStone_24 : decode m_X1_layHeaviestStone.2.1 24 = .ok (.ifCond .ne 28, 3) := by decide +kernel
theorem d_X1_layHeaviestStone_27 : decode m_X1_layHeaviestStone.2.1 27 = .ok (.aload_n 0, 1) := by decide +kernel
theorem d_X1_layHeaviestStone_28 : decode m_X1_layHeaviestStone.2.1 28 = .ok (.getfield 19, 3) := by decide +kernel
theorem d_X1_layHeaviestStone_31 : decode m_X1_layHeaviestStone.2.1 31 = .ok (.iload_n 3, 1) := by decide +kernel
theorem d_X1_layHeaviestStone_32 : decode m_X1_layHeaviestStone.2.1 32 = .ok (.aaload, 1) := by decide +kernel
theorem d_X1_layHeaviestStone_33 : decode m_X1_layHeaviestStone.2.1 33 = .ok (.getfield 54, 3) := by decide +kernel
theorem d_X1_layHeaviestStone_36 : decode m_X1_layHeaviestStone.2.1 36 = .ok (.iload_n 2, 1) := by decide +kernel
theorem d_X1_layHeaviestStone_37 : decode m_X1_layHeaviestStone.2.1 37 = .ok (.if_icmp .le 15, 3) := by decide +kernel
theorem d_X1_layHeaviestStone_40 : decode m_X1_layHeaviestStone.2.1 40 = .ok (.iload_n 3, 1) := by decide +kernel
theorem d_X1_layHeaviestStone_41 : decode m_X1_layHeaviestStone.2.1 41 = .ok (.istore_n 1, 1) := by decide +kernel
theorem d_X1_layHeaviestStone_42 : decode m_X1_layHeaviestStone.2.1 42 = .ok (.aload_n 0, 1) := by decide +kernel
theorem d_X1_layHeaviestStone_43 : decode m_X1_layHeaviestStone.2.1 43 = .ok (.getfield 19, 3) := by decide +kernel
theorem d_X1_layHeaviestStone_46 : decode m_X1_layHeaviestStone.2.1 46 = .ok (.iload_n 3, 1) := by decide +kernel
theorem d_X1_layHeaviestStone_47 : decode m_X1_layHeaviestStone.2.1 47 = .ok (.aaload, 1) := by decide +kernel
theorem d_X1_layHeaviestStone_48 : decode m_X1_layHeaviestStone.2.1 48 = .ok (.getfield 54, 3) := by decide +kernel
theorem d_X1_layHeaviestStone_51 : decode m_X1_layHeaviestStone.2.1 51 = .ok (.istore_n 2, 1) := by decide +kernel
theorem d_X1_layHeaviestStone_52 : decode m_X1_layHeaviestStone.2.1 52 = .ok (.iinc 3 1, 3) := by decide +kernel
theorem d_X1_layHeaviestStone_55 : decode m_X1_layHeaviestStone.2.1 55 = .ok (.goto (-48), 3) := by decide +kernel
theorem d_X1_layHeaviestStone_58 : decode m_X1_layHeaviestStone.2.1 58 = .ok (.aload_n 0, 1) := by decide +kernel
theorem d_X1_layHeaviestStone_59 : decode m_X1_layHeaviestStone.2.1 59 = .ok (.iload_n 1, 1) := by decide +kernel
theorem d_X1_layHeaviestStone_60 : decode m_X1_layHeaviestStone.2.1 60 = .ok (.invokevirtual 97, 3) := by decide +kernel
theorem d_X1_layHeaviestStone_63 : decode m_X1_layHeaviestStone.2.1 63 = .ok (.ifCond .eq 13, 3) := by decide +kernel
theorem d_X1_layHeaviestStone_66 : decode m_X1_layHeaviestStone.2.1 66 = .ok (.aload_n 0, 1) := by decide +kernel
theorem d_X1_layHeaviestStone_67 : decode m_X1_layHeaviestStone.2.1 67 = .ok (.getfield 19, 3) := by decide +kernel
theorem d_X1_layHeaviestStone_70 : decode m_X1_layHeaviestStone.2.1 70 = .ok (.iload_n 1, 1) := by decide +kernel
theorem d_X1_layHeaviestStone_71 : decode m_X1_layHeaviestStone.2.1 71 = .ok (.aaload, 1) := by decide +kernel
theorem d_X1_layHeaviestStone_72 : decode m_X1_layHeaviestStone.2.1 72 = .ok (.iconst 1, 1) := by decide +kernel
theorem d_X1_layHeaviestStone_73 : decode m_X1_layHeaviestStone.2.1 73 = .ok (.putfield 57, 3) := by decide +kernel
theorem d_X1_layHeaviestStone_76 : decode m_X1_layHeaviestStone.2.1 76 = .ok (.return_, 1) := by decide +kernel
theorem d_X1_nightsUntilQuiet_0 : decode m_X1_nightsUntilQuiet.2.1 0 = .ok (.iload_n 1, 1) := by decide +kernel
theorem d_X1_nightsUntilQuiet_1 : decode m_X1_nightsUntilQuiet.2.1 1 = .ok (.bipush 18, 2) := by decide +kernel
theorem d_X1_nightsUntilQuiet_3 : decode m_X1_nightsUntilQuiet.2.1 3 = .ok (.invokestatic 100, 3) := by decide +kernel
theorem d_X1_nightsUntilQuiet_6 : decode m_X1_nightsUntilQuiet.2.1 6 = .ok (.istore_n 2, 1) := by decide +kernel
theorem d_X1_nightsUntilQuiet_7 : decode m_X1_nightsUntilQuiet.2.1 7 = .ok (.iconst 0, 1) := by decide +kernel
theorem d_X1_nightsUntilQuiet_8 : decode m_X1_nightsUntilQuiet.2.1 8 = .ok (.istore_n 3, 1) := by decide +kernel
theorem d_X1_nightsUntilQuiet_9 : decode m_X1_nightsUntilQuiet.2.1 9 = .ok (.iload_n 3, 1) := by decide +kernel
theorem d_X1_nightsUntilQuiet_10 : decode m_X1_nightsUntilQuiet.2.1 10 = .ok (.iload_n 2, 1) := by decide +kernel
theorem d_X1_nightsUntilQuiet_11 : decode m_X1_nightsUntilQuiet.2.1 11 = .ok (.if_icmp .gt 22, 3) := by decide +kernel
theorem d_X1_nightsUntilQuiet_14 : decode m_X1_nightsUntilQuiet.2.1 14 = .ok (.aload_n 0, 1) := by decide +kernel
theorem d_X1_nightsUntilQuiet_15 : decode m_X1_nightsUntilQuiet.2.1 15 = .ok (.invokevirtual 81, 3) := by decide +kernel
theorem d_X1_nightsUntilQuiet_18 : decode m_X1_nightsUntilQuiet.2.1 18 = .ok (.ifCond .ne 5, 3) := by decide +kernel
theorem d_X1_nightsUntilQuiet_21 : decode m_X1_nightsUntilQuiet.2.1 21 = .ok (.iload_n 3, 1) := by decide +kernel
theorem d_X1_nightsUntilQuiet_22 : decode m_X1_nightsUntilQuiet.2.1 22 = .ok (.ireturn, 1) := by decide +kernel
theorem d_X1_nightsUntilQuiet_23 : decode m_X1_nightsUntilQuiet.2.1 23 = .ok (.aload_n 0, 1) := by decide +kernel
theorem d_X1_nightsUntilQuiet_24 : decode m_X1_nightsUntilQuiet.2.1 24 = .ok (.invokevirtual 94, 3) := by decide +kernel
theorem d_X1_nightsUntilQuiet_27 : decode m_X1_nightsUntilQuiet.2.1 27 = .ok (.iinc 3 1, 3) := by decide +kernel
theorem d_X1_nightsUntilQuiet_30 : decode m_X1_nightsUntilQuiet.2.1 30 = .ok (.goto (-21), 3) := by decide +kernel
theorem d_X1_nightsUntilQuiet_33 : decode m_X1_nightsUntilQuiet.2.1 33 = .ok (.bipush (-9), 2) := by decide +kernel
theorem d_X1_nightsUntilQuiet_35 : decode m_X1_nightsUntilQuiet.2.1 35 = .ok (.ireturn, 1) := by decide +kernel
theorem d_X1_acts_0 : decode m_X1_acts.2.1 0 = .ok (.iload_n 1, 1) := by decide +kernel
theorem d_X1_acts_1 : decode m_X1_acts.2.1 1 = .ok (.iconst 5, 1) := by decide +kernel
theorem d_X1_acts_2 : decode m_X1_acts.2.1 2 = .ok (.if_icmp .ge 9, 3) := by decide +kernel
theorem d_X1_acts_5 : decode m_X1_acts.2.1 5 = .ok (.aload_n 0, 1) := by decide +kernel
theorem d_X1_acts_6 : decode m_X1_acts.2.1 6 = .ok (.iload_n 1, 1) := by decide +kernel
theorem d_X1_acts_7 : decode m_X1_acts.2.1 7 = .ok (.invokevirtual 106, 3) := by decide +kernel
theorem d_X1_acts_10 : decode m_X1_acts.2.1 10 = .ok (.ireturn, 1) := by decide +kernel
theorem d_X1_acts_11 : decode m_X1_acts.2.1 11 = .ok (.iload_n 1, 1) := by decide +kernel
theorem d_X1_acts_12 : decode m_X1_acts.2.1 12 = .ok (.bipush 10, 2) := by decide +kernel
theorem d_X1_acts_14 : decode m_X1_acts.2.1 14 = .ok (.if_icmp .ge 11, 3) := by decide +kernel
theorem d_X1_acts_17 : decode m_X1_acts.2.1 17 = .ok (.aload_n 0, 1) := by decide +kernel
theorem d_X1_acts_18 : decode m_X1_acts.2.1 18 = .ok (.iload_n 1, 1) := by decide +kernel
theorem d_X1_acts_19 : decode m_X1_acts.2.1 19 = .ok (.iconst 5, 1) := by decide +kernel
theorem d_X1_acts_20 : decode m_X1_acts.2.1 20 = .ok (.isub, 1) := by decide +kernel
theorem d_X1_acts_21 : decode m_X1_acts.2.1 21 = .ok (.invokevirtual 109, 3) := by decide +kernel
theorem d_X1_acts_24 : decode m_X1_acts.2.1 24 = .ok (.ireturn, 1) := by decide +kernel
theorem d_X1_acts_25 : decode m_X1_acts.2.1 25 = .ok (.iload_n 1, 1) := by decide +kernel
theorem d_X1_acts_26 : decode m_X1_acts.2.1 26 = .ok (.bipush 14, 2) := by decide +kernel
theorem d_X1_acts_28 : decode m_X1_acts.2.1 28 = .ok (.if_icmp .ge 12, 3) := by decide +kernel
theorem d_X1_acts_31 : decode m_X1_acts.2.1 31 = .ok (.aload_n 0, 1) := by decide +kernel
theorem d_X1_acts_32 : decode m_X1_acts.2.1 32 = .ok (.iload_n 1, 1) := by decide +kernel
theorem d_X1_acts_33 : decode m_X1_acts.2.1 33 = .ok (.bipush 10, 2) := by decide +kernel
theorem d_X1_acts_35 : decode m_X1_acts.2.1 35 = .ok (.isub, 1) := by decide +kernel
theorem d_X1_acts_36 : decode m_X1_acts.2.1 36 = .ok (.invokevirtual 112, 3) := by decide +kernel
theorem d_X1_acts_39 : decode m_X1_acts.2.1 39 = .ok (.ireturn, 1) := by decide +kernel
theorem d_X1_acts_40 : decode m_X1_acts.2.1 40 = .ok (.aload_n 0, 1) := by decide +kernel
theorem d_X1_acts_41 : decode m_X1_acts.2.1 41 = .ok (.invokevirtual 94, 3) := by decide +kernel
theorem d_X1_acts_44 : decode m_X1_acts.2.1 44 = .ok (.iconst 1, 1) := by decide +kernel
theorem d_X1_acts_45 : decode m_X1_acts.2.1 45 = .ok (.ireturn, 1) := by decide +kernel
theorem d_X1_ownsAsAct_0 : decode m_X1_ownsAsAct.2.1 0 = .ok (.aload_n 0, 1) := by decide +kernel
theorem d_X1_ownsAsAct_1 : decode m_X1_ownsAsAct.2.1 1 = .ok (.iload_n 1, 1) := by decide +kernel
theorem d_X1_ownsAsAct_2 : decode m_X1_ownsAsAct.2.1 2 = .ok (.invokevirtual 84, 3) := by decide +kernel
theorem d_X1_ownsAsAct_5 : decode m_X1_ownsAsAct.2.1 5 = .ok (.ifCond .ne 5, 3) := by decide +kernel
theorem d_X1_ownsAsAct_8 : decode m_X1_ownsAsAct.2.1 8 = .ok (.iconst 0, 1) := by decide +kernel
theorem d_X1_ownsAsAct_9 : decode m_X1_ownsAsAct.2.1 9 = .ok (.ireturn, 1) := by decide +kernel
theorem d_X1_ownsAsAct_10 : decode m_X1_ownsAsAct.2.1 10 = .ok (.aload_n 0, 1) := by decide +kernel
theorem d_X1_ownsAsAct_11 : decode m_X1_ownsAsAct.2.1 11 = .ok (.getfield 13, 3) := by decide +kernel
theorem d_X1_ownsAsAct_14 : decode m_X1_ownsAsAct.2.1 14 = .ok (.iload_n 1, 1) := by decide +kernel
theorem d_X1_ownsAsAct_15 : decode m_X1_ownsAsAct.2.1 15 = .ok (.aaload, 1) := by decide +kernel
theorem d_X1_ownsAsAct_16 : decode m_X1_ownsAsAct.2.1 16 = .ok (.invokevirtual 78, 3) := by decide +kernel
theorem d_X1_ownsAsAct_19 : decode m_X1_ownsAsAct.2.1 19 = .ok (.pop, 1) := by decide +kernel
theorem d_X1_ownsAsAct_20 : decode m_X1_ownsAsAct.2.1 20 = .ok (.iconst 1, 1) := by decide +kernel
theorem d_X1_ownsAsAct_21 : decode m_X1_ownsAsAct.2.1 21 = .ok (.ireturn, 1) := by decide +kernel
theorem d_X1_sleepsAsAct_0 : decode m_X1_sleepsAsAct.2.1 0 = .ok (.aload_n 0, 1) := by decide +kernel
theorem d_X1_sleepsAsAct_1 : decode m_X1_sleepsAsAct.2.1 1 = .ok (.iload_n 1, 1) := by decide +kernel
theorem d_X1_sleepsAsAct_2 : decode m_X1_sleepsAsAct.2.1 2 = .ok (.invokevirtual 84, 3) := by decide +kernel
theorem d_X1_sleepsAsAct_5 : decode m_X1_sleepsAsAct.2.1 5 = .ok (.ifCond .ne 5, 3) := by decide +kernel
theorem d_X1_sleepsAsAct_8 : decode m_X1_sleepsAsAct.2.1 8 = .ok (.iconst 0, 1) := by decide +kernel
theorem d_X1_sleepsAsAct_9 : decode m_X1_sleepsAsAct.2.1 9 = .ok (.ireturn, 1) := by decide +kernel
theorem d_X1_sleepsAsAct_10 : decode m_X1_sleepsAsAct.2.1 10 = .ok (.aload_n 0, 1) := by decide +kernel
theorem d_X1_sleepsAsAct_11 : decode m_X1_sleepsAsAct.2.1 11 = .ok (.getfield 13, 3) := by decide +kernel
theorem d_X1_sleepsAsAct_14 : decode m_X1_sleepsAsAct.2.1 14 = .ok (.iload_n 1, 1) := by decide +kernel
theorem d_X1_sleepsAsAct_15 : decode m_X1_sleepsAsAct.2.1 15 = .ok (.aaload, 1) := by decide +kernel
theorem d_X1_sleepsAsAct_16 : decode m_X1_sleepsAsAct.2.1 16 = .ok (.bipush 9, 2) := by decide +kernel
theorem d_X1_sleepsAsAct_18 : decode m_X1_sleepsAsAct.2.1 18 = .ok (.putfield 44, 3) := by decide +kernel
theorem d_X1_sleepsAsAct_21 : decode m_X1_sleepsAsAct.2.1 21 = .ok (.iconst 1, 1) := by decide +kernel
theorem d_X1_sleepsAsAct_22 : decode m_X1_sleepsAsAct.2.1 22 = .ok (.ireturn, 1) := by decide +kernel
theorem d_X1_isLaidAsAct_0 : decode m_X1_isLaidAsAct.2.1 0 = .ok (.aload_n 0, 1) := by decide +kernel
theorem d_X1_isLaidAsAct_1 : decode m_X1_isLaidAsAct.2.1 1 = .ok (.iload_n 1, 1) := by decide +kernel
theorem d_X1_isLaidAsAct_2 : decode m_X1_isLaidAsAct.2.1 2 = .ok (.invokevirtual 97, 3) := by decide +kernel
theorem d_X1_isLaidAsAct_5 : decode m_X1_isLaidAsAct.2.1 5 = .ok (.ifCond .eq 15, 3) := by decide +kernel
theorem d_X1_isLaidAsAct_8 : decode m_X1_isLaidAsAct.2.1 8 = .ok (.aload_n 0, 1) := by decide +kernel
theorem d_X1_isLaidAsAct_9 : decode m_X1_isLaidAsAct.2.1 9 = .ok (.getfield 19, 3) := by decide +kernel
theorem d_X1_isLaidAsAct_12 : decode m_X1_isLaidAsAct.2.1 12 = .ok (.iload_n 1, 1) := by decide +kernel
theorem d_X1_isLaidAsAct_13 : decode m_X1_isLaidAsAct.2.1 13 = .ok (.aaload, 1) := by decide +kernel
theorem d_X1_isLaidAsAct_14 : decode m_X1_isLaidAsAct.2.1 14 = .ok (.getfield 57, 3) := by decide +kernel
theorem d_X1_isLaidAsAct_17 : decode m_X1_isLaidAsAct.2.1 17 = .ok (.ifCond .eq 5, 3) := by decide +kernel
theorem d_X1_isLaidAsAct_20 : decode m_X1_isLaidAsAct.2.1 20 = .ok (.iconst 0, 1) := by decide +kernel
theorem d_X1_isLaidAsAct_21 : decode m_X1_isLaidAsAct.2.1 21 = .ok (.ireturn, 1) := by decide +kernel
theorem d_X1_isLaidAsAct_22 : decode m_X1_isLaidAsAct.2.1 22 = .ok (.aload_n 0, 1) := by decide +kernel
theorem d_X1_isLaidAsAct_23 : decode m_X1_isLaidAsAct.2.1 23 = .ok (.getfield 19, 3) := by decide +kernel
theorem d_X1_isLaidAsAct_26 : decode m_X1_isLaidAsAct.2.1 26 = .ok (.iload_n 1, 1) := by decide +kernel
theorem d_X1_isLaidAsAct_27 : decode m_X1_isLaidAsAct.2.1 27 = .ok (.aaload, 1) := by decide +kernel
theorem d_X1_isLaidAsAct_28 : decode m_X1_isLaidAsAct.2.1 28 = .ok (.iconst 1, 1) := by decide +kernel
theorem d_X1_isLaidAsAct_29 : decode m_X1_isLaidAsAct.2.1 29 = .ok (.putfield 57, 3) := by decide +kernel
theorem d_X1_isLaidAsAct_32 : decode m_X1_isLaidAsAct.2.1 32 = .ok (.iconst 1, 1) := by decide +kernel
theorem d_X1_isLaidAsAct_33 : decode m_X1_isLaidAsAct.2.1 33 = .ok (.ireturn, 1) := by decide +kernel
theorem d_X2_init_0 : decode m_X2_init.2.1 0 = .ok (.aload_n 0, 1) := by decide +kernel
theorem d_X2_init_1 : decode m_X2_init.2.1 1 = .ok (.invokespecial 3, 3) := by decide +kernel
theorem d_X2_init_4 : decode m_X2_init.2.1 4 = .ok (.aload_n 0, 1) := by decide +kernel
theorem d_X2_init_5 : decode m_X2_init.2.1 5 = .ok (.bipush 60, 2) := by decide +kernel
theorem d_X2_init_7 : decode m_X2_init.2.1 7 = .ok (.newarray .int, 2) := by decide +kernel
theorem d_X2_init_9 : decode m_X2_init.2.1 9 = .ok (.putfield 9, 3) := by decide +kernel
theorem d_X2_init_12 : decode m_X2_init.2.1 12 = .ok (.aload_n 0, 1) := by decide +kernel
theorem d_X2_init_13 : decode m_X2_init.2.1 13 = .ok (.iconst 0, 1) := by decide +kernel
theorem d_X2_init_14 : decode m_X2_init.2.1 14 = .ok (.putfield 15, 3) := by decide +kernel
theorem d_X2_init_17 : decode m_X2_init.2.1 17 = .ok (.aload_n 0, 1) := by decide +kernel
theorem d_X2_init_18 : decode m_X2_init.2.1 18 = .ok (.iconst 0, 1) := by decide +kernel
theorem d_X2_init_19 : decode m_X2_init.2.1 19 = .ok (.putfield 19, 3) := by decide +kernel
theorem d_X2_init_22 : decode m_X2_init.2.1 22 = .ok (.aload_n 0, 1) := by decide +kernel
theorem d_X2_init_23 : decode m_X2_init.2.1 23 = .ok (.iconst 0, 1) := by decide +kernel
theorem d_X2_init_24 : decode m_X2_init.2.1 24 = .ok (.putfield 23, 3) := by decide +kernel
theorem d_X2_init_27 : decode m_X2_init.2.1 27 = .ok (.return_, 1) := by decide +kernel
theorem d_X2_renew_0 : decode m_X2_renew.2.1 0 = .ok (.aload_n 0, 1) := by decide +kernel
theorem d_X2_renew_1 : decode m_X2_renew.2.1 1 = .ok (.iconst 1, 1) := by decide +kernel
theorem d_X2_renew_2 : decode m_X2_renew.2.1 2 = .ok (.putfield 15, 3) := by decide +kernel
theorem d_X2_renew_5 : decode m_X2_renew.2.1 5 = .ok (.aload_n 0, 1) := by decide +kernel
theorem d_X2_renew_6 : decode m_X2_renew.2.1 6 = .ok (.iload_n 1, 1) := by decide +kernel
theorem d_X2_renew_7 : decode m_X2_renew.2.1 7 = .ok (.putfield 19, 3) := by decide +kernel
theorem d_X2_renew_10 : decode m_X2_renew.2.1 10 = .ok (.aload_n 0, 1) := by decide +kernel
theorem d_X2_renew_11 : decode m_X2_renew.2.1 11 = .ok (.iload_n 2, 1) := by decide +kernel
theorem d_X2_renew_12 : decode m_X2_renew.2.1 12 = .ok (.putfield 23, 3) := by decide +kernel
theorem d_X2_renew_15 : decode m_X2_renew.2.1 15 = .ok (.iconst 0, 1) := by decide +kernel
theorem d_X2_renew_16 : decode m_X2_renew.2.1 16 = .ok (.istore_n 3, 1) := by decide +kernel
theorem d_X2_renew_17 : decode m_X2_renew.2.1 17 = .ok (.iload_n 3, 1) := by decide +kernel
theorem d_X2_renew_18 : decode m_X2_renew.2.1 18 = .ok (.bipush 60, 2) := by decide +kernel
theorem d_X2_renew_20 : decode m_X2_renew.2.1 20 = .ok (.if_icmp .ge 16, 3) := by decide +kernel
theorem d_X2_renew_23 : decode m_X2_renew.2.1 23 = .ok (.aload_n 0, 1) := by decide +kernel
theorem d_X2_renew_24 : decode m_X2_renew.2.1 24 = .ok (.getfield 9, 3) := by decide +kernel
theorem d_X2_renew_27 : decode m_X2_renew.2.1 27 = .ok (.iload_n 3, 1) := by decide +kernel
theorem d_X2_renew_28 : decode m_X2_renew.2.1 28 = .ok (.iconst 0, 1) := by decide +kernel
theorem d_X2_renew_29 : decode m_X2_renew.2.1 29 = .ok (.iastore, 1) := by decide +kernel
theorem d_X2_renew_30 : decode m_X2_renew.2.1 30 = .ok (.iinc 3 1, 3) := by decide +kernel
theorem d_X2_renew_33 : decode m_X2_renew.2.1 33 = .ok (.goto (-16), 3) := by decide +kernel
theorem d_X2_renew_36 : decode m_X2_renew.2.1 36 = .ok (.return_, 1) := by decide +kernel
theorem d_X2_hasCells_0 : decode m_X2_hasCells.2.1 0 = .ok (.iload_n 1, 1) := by decide +kernel
theorem d_X2_hasCells_1 : decode m_X2_hasCells.2.1 1 = .ok (.ifCond .lt 29, 3) := by decide +kernel
theorem d_X2_hasCells_4 : decode m_X2_hasCells.2.1 4 = .ok (.iload_n 1, 1) := by decide +kernel
theorem d_X2_hasCells_5 : decode m_X2_hasCells.2.1 5 = .ok (.aload_n 0, 1) := by decide +kernel
theorem d_X2_hasCells_6 : decode m_X2_hasCells.2.1 6 = .ok (.getfield 23, 3) := by decide +kernel
theorem d_X2_hasCells_9 : decode m_X2_hasCells.2.1 9 = .ok (.if_icmp .gt 21, 3) := by decide +kernel
theorem d_X2_hasCells_12 : decode m_X2_hasCells.2.1 12 = .ok (.iload_n 2, 1) := by decide +kernel
theorem d_X2_hasCells_13 : decode m_X2_hasCells.2.1 13 = .ok (.ifCond .lt 17, 3) := by decide +kernel
theorem d_X2_hasCells_16 : decode m_X2_hasCells.2.1 16 = .ok (.iload_n 2, 1) := by decide +kernel
theorem d_X2_hasCells_17 : decode m_X2_hasCells.2.1 17 = .ok (.aload_n 0, 1) := by decide +kernel
theorem d_X2_hasCells_18 : decode m_X2_hasCells.2.1 18 = .ok (.getfield 23, 3) := by decide +kernel
theorem d_X2_hasCells_21 : decode m_X2_hasCells.2.1 21 = .ok (.iload_n 1, 1) := by decide +kernel
theorem d_X2_hasCells_22 : decode m_X2_hasCells.2.1 22 = .ok (.isub, 1) := by decide +kernel
theorem d_X2_hasCells_23 : decode m_X2_hasCells.2.1 23 = .ok (.if_icmp .gt 7, 3) := by decide +kernel
theorem d_X2_hasCells_26 : decode m_X2_hasCells.2.1 26 = .ok (.iconst 1, 1) := by decide +kernel
theorem d_X2_hasCells_27 : decode m_X2_hasCells.2.1 27 = .ok (.goto 4, 3) := by decide +kernel
theorem d_X2_hasCells_30 : decode m_X2_hasCells.2.1 30 = .ok (.iconst 0, 1) := by decide +kernel
theorem d_X2_hasCells_31 : decode m_X2_hasCells.2.1 31 = .ok (.ireturn, 1) := by decide +kernel
theorem d_X2_cutToLane_0 : decode m_X2_cutToLane.2.1 0 = .ok (.aload_n 0, 1) := by decide +kernel
theorem d_X2_cutToLane_1 : decode m_X2_cutToLane.2.1 1 = .ok (.getfield 19, 3) := by decide +kernel
theorem d_X2_cutToLane_4 : decode m_X2_cutToLane.2.1 4 = .ok (.ifCond .ne 6, 3) := by decide +kernel
theorem d_X2_cutToLane_7 : decode m_X2_cutToLane.2.1 7 = .ok (.iload_n 1, 1) := by decide +kernel
theorem d_X2_cutToLane_8 : decode m_X2_cutToLane.2.1 8 = .ok (.i2b, 1) := by decide +kernel
theorem d_X2_cutToLane_9 : decode m_X2_cutToLane.2.1 9 = .ok (.ireturn, 1) := by decide +kernel
theorem d_X2_cutToLane_10 : decode m_X2_cutToLane.2.1 10 = .ok (.aload_n 0, 1) := by decide +kernel
theorem d_X2_cutToLane_11 : decode m_X2_cutToLane.2.1 11 = .ok (.getfield 19, 3) := by decide +kernel
theorem d_X2_cutToLane_14 : decode m_X2_cutToLane.2.1 14 = .ok (.iconst 1, 1) := by decide +kernel
theorem d_X2_cutToLane_15 : decode m_X2_cutToLane.2.1 15 = .ok (.if_icmp .ne 8, 3) := by decide +kernel
theorem d_X2_cutToLane_18 : decode m_X2_cutToLane.2.1 18 = .ok (.iload_n 1, 1) := by decide +kernel
theorem d_X2_cutToLane_19 : decode m_X2_cutToLane.2.1 19 = .ok (.i2s, 1) := by decide +kernel
theorem d_X2_cutToLane_20 : decode m_X2_cutToLane.2.1 20 = .ok (.goto 4, 3) := by decide +kernel
theorem d_X2_cutToLane_23 : decode m_X2_cutToLane.2.1 23 = .ok (.iload_n 1, 1) := by decide +kernel
theorem d_X2_cutToLane_24 : decode m_X2_cutToLane.2.1 24 = .ok (.ireturn, 1) := by decide +kernel
theorem d_X3_init_0 : decode m_X3_init.2.1 0 = .ok (.aload_n 0, 1) := by decide +kernel
theorem d_X3_init_1 : decode m_X3_init.2.1 1 = .ok (.invokespecial 1, 3) := by decide +kernel
theorem d_X3_init_4 : decode m_X3_init.2.1 4 = .ok (.aload_n 0, 1) := by decide +kernel
theorem d_X3_init_5 : decode m_X3_init.2.1 5 = .ok (.iconst 0, 1) := by decide +kernel
theorem d_X3_init_6 : decode m_X3_init.2.1 6 = .ok (.putfield 7, 3) := by decide +kernel
theorem d_X3_init_9 : decode m_X3_init.2.1 9 = .ok (.aload_n 0, 1) := by decide +kernel
theorem d_X3_init_10 : decode m_X3_init.2.1 10 = .ok (.iconst 0, 1) := by decide +kernel
theorem d_X3_init_11 : decode m_X3_init.2.1 11 = .ok (.putfield 13, 3) := by decide +kernel
theorem d_X3_init_14 : decode m_X3_init.2.1 14 = .ok (.return_, 1) := by decide +kernel
theorem d_X3_become_0 : decode m_X3_become.2.1 0 = .ok (.aload_n 0, 1) := by decide +kernel
theorem d_X3_become_1 : decode m_X3_become.2.1 1 = .ok (.aload_n 1, 1) := by decide +kernel
theorem d_X3_become_2 : decode m_X3_become.2.1 2 = .ok (.getfield 7, 3) := by decide +kernel
theorem d_X3_become_5 : decode m_X3_become.2.1 5 = .ok (.putfield 7, 3) := by decide +kernel
theorem d_X3_become_8 : decode m_X3_become.2.1 8 = .ok (.aload_n 0, 1) := by decide +kernel
theorem d_X3_become_9 : decode m_X3_become.2.1 9 = .ok (.aload_n 1, 1) := by decide +kernel
theorem d_X3_become_10 : decode m_X3_become.2.1 10 = .ok (.getfield 13, 3) := by decide +kernel
theorem d_X3_become_13 : decode m_X3_become.2.1 13 = .ok (.putfield 13, 3) := by decide +kernel
theorem d_X3_become_16 : decode m_X3_become.2.1 16 = .ok (.return_, 1) := by decide +kernel
theorem d_X4_init_0 : decode m_X4_init.2.1 0 = .ok (.aload_n 0, 1) := by decide +kernel
theorem d_X4_init_1 : decode m_X4_init.2.1 1 = .ok (.invokespecial 3, 3) := by decide +kernel
theorem d_X4_init_4 : decode m_X4_init.2.1 4 = .ok (.aload_n 0, 1) := by decide +kernel
theorem d_X4_init_5 : decode m_X4_init.2.1 5 = .ok (.iconst 0, 1) := by decide +kernel
theorem d_X4_init_6 : decode m_X4_init.2.1 6 = .ok (.putfield 11, 3) := by decide +kernel
theorem d_X4_init_9 : decode m_X4_init.2.1 9 = .ok (.aload_n 0, 1) := by decide +kernel
theorem d_X4_init_10 : decode m_X4_init.2.1 10 = .ok (.iconst 0, 1) := by decide +kernel
theorem d_X4_init_11 : decode m_X4_init.2.1 11 = .ok (.putfield 15, 3) := by decide +kernel
theorem d_X4_init_14 : decode m_X4_init.2.1 14 = .ok (.aload_n 0, 1) := by decide +kernel
theorem d_X4_init_15 : decode m_X4_init.2.1 15 = .ok (.iconst 0, 1) := by decide +kernel
theorem d_X4_init_16 : decode m_X4_init.2.1 16 = .ok (.putfield 18, 3) := by decide +kernel
theorem d_X4_init_19 : decode m_X4_init.2.1 19 = .ok (.aload_n 0, 1) := by decide +kernel
theorem d_X4_init_20 : decode m_X4_init.2.1 20 = .ok (.aload_n 1, 1) := by decide +kernel
theorem d_X4_init_21 : decode m_X4_init.2.1 21 = .ok (.putfield 21, 3) := by decide +kernel
theorem d_X4_init_24 : decode m_X4_init.2.1 24 = .ok (.aload_n 1, 1) := by decide +kernel
theorem d_X4_init_25 : decode m_X4_init.2.1 25 = .ok (.invokevirtual 25, 3) := by decide +kernel
theorem d_X4_init_28 : decode m_X4_init.2.1 28 = .ok (.return_, 1) := by decide +kernel
theorem d_X4_mayEnd_0 : decode m_X4_mayEnd.2.1 0 = .ok (.aload_n 0, 1) := by decide +kernel
theorem d_X4_mayEnd_1 : decode m_X4_mayEnd.2.1 1 = .ok (.getfield 11, 3) := by decide +kernel
theorem d_X4_mayEnd_4 : decode m_X4_mayEnd.2.1 4 = .ok (.bipush 6, 2) := by decide +kernel
theorem d_X4_mayEnd_6 : decode m_X4_mayEnd.2.1 6 = .ok (.if_icmp .eq 12, 3) := by decide +kernel
theorem d_X4_mayEnd_9 : decode m_X4_mayEnd.2.1 9 = .ok (.aload_n 0, 1) := by decide +kernel
theorem d_X4_mayEnd_10 : decode m_X4_mayEnd.2.1 10 = .ok (.getfield 11, 3) := by decide +kernel
theorem d_X4_mayEnd_13 : decode m_X4_mayEnd.2.1 13 = .ok (.bipush 8, 2) := by decide +kernel
theorem d_X4_mayEnd_15 : decode m_X4_mayEnd.2.1 15 = .ok (.if_icmp .ne 7, 3) := by decide +kernel
theorem d_X4_mayEnd_18 : decode m_X4_mayEnd.2.1 18 = .ok (.iconst 1, 1) := by decide +kernel
theorem d_X4_mayEnd_19 : decode m_X4_mayEnd.2.1 19 = .ok (.goto 4, 3) := by decide +kernel
theorem d_X4_mayEnd_22 : decode m_X4_mayEnd.2.1 22 = .ok (.iconst 0, 1) := by decide +kernel
theorem d_X4_mayEnd_23 : decode m_X4_mayEnd.2.1 23 = .ok (.ireturn, 1) := by decide +kernel
theorem d_X4_takes_0 : decode m_X4_takes.2.1 0 = .ok (.aload_n 0, 1) := by decide +kernel
theorem d_X4_takes_1 : decode m_X4_takes.2.1 1 = .ok (.getfield 11, 3) := by decide +kernel
theorem d_X4_takes_4 : decode m_X4_takes.2.1 4 = .ok (.tableswitch 165 0 6 #[44, 61, 86, 103, 131, 153, 159], 44) := by decide +kernel
theorem d_X4_takes_48 : decode m_X4_takes.2.1 48 = .ok (.aload_n 0, 1) := by decide +kernel
theorem d_X4_takes_49 : decode m_X4_takes.2.1 49 = .ok (.iload_n 1, 1) := by decide +kernel
theorem d_X4_takes_50 : decode m_X4_takes.2.1 50 = .ok (.bipush 116, 2) := by decide +kernel
theorem d_X4_takes_52 : decode m_X4_takes.2.1 52 = .ok (.if_icmp .ne 7, 3) := by decide +kernel
theorem d_X4_takes_55 : decode m_X4_takes.2.1 55 = .ok (.iconst 1, 1) := by decide +kernel
theorem d_X4_takes_56 : decode m_X4_takes.2.1 56 = .ok (.goto 4, 3) := by decide +kernel
theorem d_X4_takes_59 : decode m_X4_takes.2.1 59 = .ok (.iconst 0, 1) := by decide +kernel
theorem d_X4_takes_60 : decode m_X4_takes.2.1 60 = .ok (.iconst 1, 1) := by decide +kernel
theorem d_X4_takes_61 : decode m_X4_takes.2.1 61 = .ok (.invokevirtual 30, 3) := by decide +kernel
theorem d_X4_takes_64 : decode m_X4_takes.2.1 64 = .ok (.ireturn, 1) := by decide +kernel
theorem d_X4_takes_65 : decode m_X4_takes.2.1 65 = .ok (.aload_n 0, 1) := by decide +kernel
theorem d_X4_takes_66 : decode m_X4_takes.2.1 66 = .ok (.getfield 21, 3) := by decide +kernel
theorem d_X4_takes_69 : decode m_X4_takes.2.1 69 = .ok (.iload_n 1, 1) := by decide +kernel
theorem d_X4_takes_70 : decode m_X4_takes.2.1 70 = .ok (.bipush 48, 2) := by decide +kernel
theorem d_X4_takes_72 : decode m_X4_takes.2.1 72 = .ok (.isub, 1) := by decide +kernel
theorem d_X4_takes_73 : decode m_X4_takes.2.1 73 = .ok (.putfield 34, 3) := by decide +kernel
theorem d_X4_takes_76 : decode m_X4_takes.2.1 76 = .ok (.aload_n 0, 1) := by decide +kernel
theorem d_X4_takes_77 : decode m_X4_takes.2.1 77 = .ok (.iload_n 1, 1) := by decide +kernel
theorem d_X4_takes_78 : decode m_X4_takes.2.1 78 = .ok (.bipush 49, 2) := by decide +kernel
theorem d_X4_takes_80 : decode m_X4_takes.2.1 80 = .ok (.bipush 52, 2) := by decide +kernel
theorem d_X4_takes_82 : decode m_X4_takes.2.1 82 = .ok (.invokestatic 37, 3) := by decide +kernel
theorem d_X4_takes_85 : decode m_X4_takes.2.1 85 = .ok (.iconst 2, 1) := by decide +kernel
theorem d_X4_takes_86 : decode m_X4_takes.2.1 86 = .ok (.invokevirtual 30, 3) := by decide +kernel
theorem d_X4_takes_89 : decode m_X4_takes.2.1 89 = .ok (.ireturn, 1) := by decide +kernel
theorem d_X4_takes_90 : decode m_X4_takes.2.1 90 = .ok (.aload_n 0, 1) := by decide +kernel
theorem d_X4_takes_91 : decode m_X4_takes.2.1 91 = .ok (.iload_n 1, 1) := by decide +kernel
theorem d_X4_takes_92 : decode m_X4_takes.2.1 92 = .ok (.bipush 59, 2) := by decide +kernel
theorem d_X4_takes_94 : decode m_X4_takes.2.1 94 = .ok (.if_icmp .ne 7, 3) := by decide +kernel
theorem d_X4_takes_97 : decode m_X4_takes.2.1 97 = .ok (.iconst 1, 1) := by decide +kernel
theorem d_X4_takes_98 : decode m_X4_takes.2.1 98 = .ok (.goto 4, 3) := by decide +kernel
theorem d_X4_takes_101 : decode m_X4_takes.2.1 101 = .ok (.iconst 0, 1) := by decide +kernel
theorem d_X4_takes_102 : decode m_X4_takes.2.1 102 = .ok (.iconst 3, 1) := by decide +kernel
theorem d_X4_takes_103 : decode m_X4_takes.2.1 103 = .ok (.invokevirtual 30, 3) := by decide +kernel
theorem d_X4_takes_106 : decode m_X4_takes.2.1 106 = .ok (.ireturn, 1) := by decide +kernel
theorem d_X4_takes_107 : decode m_X4_takes.2.1 107 = .ok (.aload_n 0, 1) := by decide +kernel
theorem d_X4_takes_108 : decode m_X4_takes.2.1 108 = .ok (.iload_n 1, 1) := by decide +kernel
theorem d_X4_takes_109 : decode m_X4_takes.2.1 109 = .ok (.invokestatic 41, 3) := by decide +kernel
theorem d_X4_takes_112 : decode m_X4_takes.2.1 112 = .ok (.putfield 15, 3) := by decide +kernel
theorem d_X4_takes_115 : decode m_X4_takes.2.1 115 = .ok (.aload_n 0, 1) := by decide +kernel
theorem d_X4_takes_116 : decode m_X4_takes.2.1 116 = .ok (.aload_n 0, 1) := by decide +kernel
theorem d_X4_takes_117 : decode m_X4_takes.2.1 117 = .ok (.getfield 15, 3) := by decide +kernel
theorem d_X4_takes_120 : decode m_X4_takes.2.1 120 = .ok (.bipush (-9), 2) := by decide +kernel
theorem d_X4_takes_122 : decode m_X4_takes.2.1 122 = .ok (.if_icmp .eq 7, 3) := by decide +kernel
theorem d_X4_takes_125 : decode m_X4_takes.2.1 125 = .ok (.iconst 1, 1) := by decide +kernel
theorem d_X4_takes_126 : decode m_X4_takes.2.1 126 = .ok (.goto 4, 3) := by decide +kernel
theorem d_X4_takes_129 : decode m_X4_takes.2.1 129 = .ok (.iconst 0, 1) := by decide +kernel
theorem d_X4_takes_130 : decode m_X4_takes.2.1 130 = .ok (.iconst 4, 1) := by decide +kernel
theorem d_X4_takes_131 : decode m_X4_takes.2.1 131 = .ok (.invokevirtual 30, 3) := by decide +kernel
theorem d_X4_takes_134 : decode m_X4_takes.2.1 134 = .ok (.ireturn, 1) := by decide +kernel
theorem d_X4_takes_135 : decode m_X4_takes.2.1 135 = .ok (.aload_n 0, 1) := by decide +kernel
theorem d_X4_takes_136 : decode m_X4_takes.2.1 136 = .ok (.iload_n 1, 1) := by decide +kernel
theorem d_X4_takes_137 : decode m_X4_takes.2.1 137 = .ok (.bipush 48, 2) := by decide +kernel
theorem d_X4_takes_139 : decode m_X4_takes.2.1 139 = .ok (.isub, 1) := by decide +kernel
theorem d_X4_takes_140 : decode m_X4_takes.2.1 140 = .ok (.putfield 18, 3) := by decide +kernel
theorem d_X4_takes_143 : decode m_X4_takes.2.1 143 = .ok (.aload_n 0, 1) := by decide +kernel
theorem d_X4_takes_144 : decode m_X4_takes.2.1 144 = .ok (.iload_n 1, 1) := by decide +kernel
theorem d_X4_takes_145 : decode m_X4_takes.2.1 145 = .ok (.bipush 48, 2) := by decide +kernel
theorem d_X4_takes_147 : decode m_X4_takes.2.1 147 = .ok (.bipush 57, 2) := by decide +kernel
theorem d_X4_takes_149 : decode m_X4_takes.2.1 149 = .ok (.invokestatic 37, 3) := by decide +kernel
theorem d_X4_takes_152 : decode m_X4_takes.2.1 152 = .ok (.iconst 5, 1) := by decide +kernel
theorem d_X4_takes_153 : decode m_X4_takes.2.1 153 = .ok (.invokevirtual 30, 3) := by decide +kernel
theorem d_X4_takes_156 : decode m_X4_takes.2.1 156 = .ok (.ireturn, 1) := by decide +kernel
theorem d_X4_takes_157 : decode m_X4_takes.2.1 157 = .ok (.aload_n 0, 1) := by decide +kernel
theorem d_X4_takes_158 : decode m_X4_takes.2.1 158 = .ok (.iload_n 1, 1) := by decide +kernel
theorem d_X4_takes_159 : decode m_X4_takes.2.1 159 = .ok (.invokevirtual 45, 3) := by decide +kernel
theorem d_X4_takes_162 : decode m_X4_takes.2.1 162 = .ok (.ireturn, 1) := by decide +kernel
theorem d_X4_takes_163 : decode m_X4_takes.2.1 163 = .ok (.aload_n 0, 1) := by decide +kernel
theorem d_X4_takes_164 : decode m_X4_takes.2.1 164 = .ok (.iload_n 1, 1) := by decide +kernel
theorem d_X4_takes_165 : decode m_X4_takes.2.1 165 = .ok (.invokevirtual 49, 3) := by decide +kernel
theorem d_X4_takes_168 : decode m_X4_takes.2.1 168 = .ok (.ireturn, 1) := by decide +kernel
theorem d_X4_takes_169 : decode m_X4_takes.2.1 169 = .ok (.aload_n 0, 1) := by decide +kernel
theorem d_X4_takes_170 : decode m_X4_takes.2.1 170 = .ok (.iload_n 1, 1) := by decide +kernel
theorem d_X4_takes_171 : decode m_X4_takes.2.1 171 = .ok (.invokevirtual 52, 3) := by decide +kernel
theorem d_X4_takes_174 : decode m_X4_takes.2.1 174 = .ok (.ireturn, 1) := by decide +kernel
theorem d_X4_goesOn_0 : decode m_X4_goesOn.2.1 0 = .ok (.aload_n 0, 1) := by decide +kernel
theorem d_X4_goesOn_1 : decode m_X4_goesOn.2.1 1 = .ok (.iload_n 1, 1) := by decide +kernel
theorem d_X4_goesOn_2 : decode m_X4_goesOn.2.1 2 = .ok (.ifCond .eq 7, 3) := by decide +kernel
theorem d_X4_goesOn_5 : decode m_X4_goesOn.2.1 5 = .ok (.iload_n 2, 1) := by decide +kernel
theorem d_X4_goesOn_6 : decode m_X4_goesOn.2.1 6 = .ok (.goto 7, 3) := by decide +kernel
theorem d_X4_goesOn_9 : decode m_X4_goesOn.2.1 9 = .ok (.aload_n 0, 1) := by decide +kernel
theorem d_X4_goesOn_10 : decode m_X4_goesOn.2.1 10 = .ok (.getfield 11, 3) := by decide +kernel
theorem d_X4_goesOn_13 : decode m_X4_goesOn.2.1 13 = .ok (.putfield 11, 3) := by decide +kernel
theorem d_X4_goesOn_16 : decode m_X4_goesOn.2.1 16 = .ok (.iload_n 1, 1) := by decide +kernel
theorem d_X4_goesOn_17 : decode m_X4_goesOn.2.1 17 = .ok (.ireturn, 1) := by decide +kernel
theorem d_X4_kindOfLetter_0 : decode m_X4_kindOfLetter.2.1 0 = .ok (.iload_n 0, 1) := by decide +kernel
theorem d_X4_kindOfLetter_1 : decode m_X4_kindOfLetter.2.1 1 = .ok (.lookupswitch 41 #[(98, 37), (100, 39), (112, 35)], 35) := by decide +kernel
theorem d_X4_kindOfLetter_36 : decode m_X4_kindOfLetter.2.1 36 = .ok (.iconst 0, 1) := by decide +kernel
theorem d_X4_kindOfLetter_37 : decode m_X4_kindOfLetter.2.1 37 = .ok (.ireturn, 1) := by decide +kernel
theorem d_X4_kindOfLetter_38 : decode m_X4_kindOfLetter.2.1 38 = .ok (.iconst 1, 1) := by decide +kernel
theorem d_X4_kindOfLetter_39 : decode m_X4_kindOfLetter.2.1 39 = .ok (.ireturn, 1) := by decide +kernel
theorem d_X4_kindOfLetter_40 : decode m_X4_kindOfLetter.2.1 40 = .ok (.iconst 2, 1) := by decide +kernel
theorem d_X4_kindOfLetter_41 : decode m_X4_kindOfLetter.2.1 41 = .ok (.ireturn, 1) := by decide +kernel
theorem d_X4_kindOfLetter_42 : decode m_X4_kindOfLetter.2.1 42 = .ok (.bipush (-9), 2) := by decide +kernel
theorem d_X4_kindOfLetter_44 : decode m_X4_kindOfLetter.2.1 44 = .ok (.ireturn, 1) := by decide +kernel
theorem d_X4_takesSleep_0 : decode m_X4_takesSleep.2.1 0 = .ok (.iload_n 1, 1) := by decide +kernel
theorem d_X4_takesSleep_1 : decode m_X4_takesSleep.2.1 1 = .ok (.bipush 48, 2) := by decide +kernel
theorem d_X4_takesSleep_3 : decode m_X4_takesSleep.2.1 3 = .ok (.bipush 57, 2) := by decide +kernel
theorem d_X4_takesSleep_5 : decode m_X4_takesSleep.2.1 5 = .ok (.invokestatic 37, 3) := by decide +kernel
theorem d_X4_takesSleep_8 : decode m_X4_takesSleep.2.1 8 = .ok (.ifCond .ne 5, 3) := by decide +kernel
theorem d_X4_takesSleep_11 : decode m_X4_takesSleep.2.1 11 = .ok (.iconst 0, 1) := by decide +kernel
theorem d_X4_takesSleep_12 : decode m_X4_takesSleep.2.1 12 = .ok (.ireturn, 1) := by decide +kernel
theorem d_X4_takesSleep_13 : decode m_X4_takesSleep.2.1 13 = .ok (.aload_n 0, 1) := by decide +kernel
theorem d_X4_takesSleep_14 : decode m_X4_takesSleep.2.1 14 = .ok (.getfield 21, 3) := by decide +kernel
theorem d_X4_takesSleep_17 : decode m_X4_takesSleep.2.1 17 = .ok (.aload_n 0, 1) := by decide +kernel
theorem d_X4_takesSleep_18 : decode m_X4_takesSleep.2.1 18 = .ok (.getfield 15, 3) := by decide +kernel
theorem d_X4_takesSleep_21 : decode m_X4_takesSleep.2.1 21 = .ok (.aload_n 0, 1) := by decide +kernel
theorem d_X4_takesSleep_22 : decode m_X4_takesSleep.2.1 22 = .ok (.getfield 18, 3) := by decide +kernel
theorem d_X4_takesSleep_25 : decode m_X4_takesSleep.2.1 25 = .ok (.iload_n 1, 1) := by decide +kernel
theorem d_X4_takesSleep_26 : decode m_X4_takesSleep.2.1 26 = .ok (.bipush 48, 2) := by decide +kernel
theorem d_X4_takesSleep_28 : decode m_X4_takesSleep.2.1 28 = .ok (.isub, 1) := by decide +kernel
theorem d_X4_takesSleep_29 : decode m_X4_takesSleep.2.1 29 = .ok (.invokevirtual 55, 3) := by decide +kernel
theorem d_X4_takesSleep_32 : decode m_X4_takesSleep.2.1 32 = .ok (.aload_n 0, 1) := by decide +kernel
theorem d_X4_takesSleep_33 : decode m_X4_takesSleep.2.1 33 = .ok (.iconst 1, 1) := by decide +kernel
theorem d_X4_takesSleep_34 : decode m_X4_takesSleep.2.1 34 = .ok (.bipush 6, 2) := by decide +kernel
theorem d_X4_takesSleep_36 : decode m_X4_takesSleep.2.1 36 = .ok (.invokevirtual 30, 3) := by decide +kernel
theorem d_X4_takesSleep_39 : decode m_X4_takesSleep.2.1 39 = .ok (.ireturn, 1) := by decide +kernel
theorem d_X4_takesAfterHouse_0 : decode m_X4_takesAfterHouse.2.1 0 = .ok (.iload_n 1, 1) := by decide +kernel
theorem d_X4_takesAfterHouse_1 : decode m_X4_takesAfterHouse.2.1 1 = .ok (.bipush 33, 2) := by decide +kernel
theorem d_X4_takesAfterHouse_3 : decode m_X4_takesAfterHouse.2.1 3 = .ok (.if_icmp .ne 11, 3) := by decide +kernel
theorem d_X4_takesAfterHouse_6 : decode m_X4_takesAfterHouse.2.1 6 = .ok (.aload_n 0, 1) := by decide +kernel
theorem d_X4_takesAfterHouse_7 : decode m_X4_takesAfterHouse.2.1 7 = .ok (.iconst 1, 1) := by decide +kernel
theorem d_X4_takesAfterHouse_8 : decode m_X4_takesAfterHouse.2.1 8 = .ok (.bipush 7, 2) := by decide +kernel
theorem d_X4_takesAfterHouse_10 : decode m_X4_takesAfterHouse.2.1 10 = .ok (.invokevirtual 30, 3) := by decide +kernel
theorem d_X4_takesAfterHouse_13 : decode m_X4_takesAfterHouse.2.1 13 = .ok (.ireturn, 1) := by decide +kernel
theorem d_X4_takesAfterHouse_14 : decode m_X4_takesAfterHouse.2.1 14 = .ok (.aload_n 0, 1) := by decide +kernel
theorem d_X4_takesAfterHouse_15 : decode m_X4_takesAfterHouse.2.1 15 = .ok (.iload_n 1, 1) := by decide +kernel
theorem d_X4_takesAfterHouse_16 : decode m_X4_takesAfterHouse.2.1 16 = .ok (.bipush 59, 2) := by decide +kernel
theorem d_X4_takesAfterHouse_18 : decode m_X4_takesAfterHouse.2.1 18 = .ok (.if_icmp .ne 18, 3) := by decide +kernel
theorem d_X4_takesAfterHouse_21 : decode m_X4_takesAfterHouse.2.1 21 = .ok (.aload_n 0, 1) := by decide +kernel
theorem d_X4_takesAfterHouse_22 : decode m_X4_takesAfterHouse.2.1 22 = .ok (.getfield 21, 3) := by decide +kernel
theorem d_X4_takesAfterHouse_25 : decode m_X4_takesAfterHouse.2.1 25 = .ok (.getfield 59, 3) := by decide +kernel
theorem d_X4_takesAfterHouse_28 : decode m_X4_takesAfterHouse.2.1 28 = .ok (.iconst 5, 1) := by decide +kernel
theorem d_X4_takesAfterHouse_29 : decode m_X4_takesAfterHouse.2.1 29 = .ok (.if_icmp .ge 7, 3) := by decide +kernel
theorem d_X4_takesAfterHouse_32 : decode m_X4_takesAfterHouse.2.1 32 = .ok (.iconst 1, 1) := by decide +kernel
theorem d_X4_takesAfterHouse_33 : decode m_X4_takesAfterHouse.2.1 33 = .ok (.goto 4, 3) := by decide +kernel
theorem d_X4_takesAfterHouse_36 : decode m_X4_takesAfterHouse.2.1 36 = .ok (.iconst 0, 1) := by decide +kernel
theorem d_X4_takesAfterHouse_37 : decode m_X4_takesAfterHouse.2.1 37 = .ok (.iconst 3, 1) := by decide +kernel
theorem d_X4_takesAfterHouse_38 : decode m_X4_takesAfterHouse.2.1 38 = .ok (.invokevirtual 30, 3) := by decide +kernel
theorem d_X4_takesAfterHouse_41 : decode m_X4_takesAfterHouse.2.1 41 = .ok (.ireturn, 1) := by decide +kernel
theorem d_X4_takesStone_0 : decode m_X4_takesStone.2.1 0 = .ok (.iload_n 1, 1) := by decide +kernel
theorem d_X4_takesStone_1 : decode m_X4_takesStone.2.1 1 = .ok (.bipush 49, 2) := by decide +kernel
theorem d_X4_takesStone_3 : decode m_X4_takesStone.2.1 3 = .ok (.bipush 57, 2) := by decide +kernel
theorem d_X4_takesStone_5 : decode m_X4_takesStone.2.1 5 = .ok (.invokestatic 37, 3) := by decide +kernel
theorem d_X4_takesStone_8 : decode m_X4_takesStone.2.1 8 = .ok (.ifCond .eq 14, 3) := by decide +kernel
theorem d_X4_takesStone_11 : decode m_X4_takesStone.2.1 11 = .ok (.aload_n 0, 1) := by decide +kernel
theorem d_X4_takesStone_12 : decode m_X4_takesStone.2.1 12 = .ok (.getfield 21, 3) := by decide +kernel
theorem d_X4_takesStone_15 : decode m_X4_takesStone.2.1 15 = .ok (.getfield 62, 3) := by decide +kernel
theorem d_X4_takesStone_18 : decode m_X4_takesStone.2.1 18 = .ok (.iconst 4, 1) := by decide +kernel
theorem d_X4_takesStone_19 : decode m_X4_takesStone.2.1 19 = .ok (.if_icmp .lt 5, 3) := by decide +kernel
theorem d_X4_takesStone_22 : decode m_X4_takesStone.2.1 22 = .ok (.iconst 0, 1) := by decide +kernel
theorem d_X4_takesStone_23 : decode m_X4_takesStone.2.1 23 = .ok (.ireturn, 1) := by decide +kernel
theorem d_X4_takesStone_24 : decode m_X4_takesStone.2.1 24 = .ok (.aload_n 0, 1) := by decide +kernel
theorem d_X4_takesStone_25 : decode m_X4_takesStone.2.1 25 = .ok (.getfield 21, 3) := by decide +kernel
theorem d_X4_takesStone_28 : decode m_X4_takesStone.2.1 28 = .ok (.iload_n 1, 1) := by decide +kernel
theorem d_X4_takesStone_29 : decode m_X4_takesStone.2.1 29 = .ok (.bipush 48, 2) := by decide +kernel
theorem d_X4_takesStone_31 : decode m_X4_takesStone.2.1 31 = .ok (.isub, 1) := by decide +kernel
theorem d_X4_takesStone_32 : decode m_X4_takesStone.2.1 32 = .ok (.invokevirtual 65, 3) := by decide +kernel
theorem d_X4_takesStone_35 : decode m_X4_takesStone.2.1 35 = .ok (.aload_n 0, 1) := by decide +kernel
theorem d_X4_takesStone_36 : decode m_X4_takesStone.2.1 36 = .ok (.iconst 1, 1) := by decide +kernel
theorem d_X4_takesStone_37 : decode m_X4_takesStone.2.1 37 = .ok (.bipush 8, 2) := by decide +kernel
theorem d_X4_takesStone_39 : decode m_X4_takesStone.2.1 39 = .ok (.invokevirtual 30, 3) := by decide +kernel
theorem d_X4_takesStone_42 : decode m_X4_takesStone.2.1 42 = .ok (.ireturn, 1) := by decide +kernel
theorem d_X5_init_0 : decode m_X5_init.2.1 0 = .ok (.aload_n 0, 1) := by decide +kernel
theorem d_X5_init_1 : decode m_X5_init.2.1 1 = .ok (.invokespecial 3, 3) := by decide +kernel
theorem d_X5_init_4 : decode m_X5_init.2.1 4 = .ok (.aload_n 0, 1) := by decide +kernel
theorem d_X5_init_5 : decode m_X5_init.2.1 5 = .ok (.new 9, 3) := by decide +kernel
theorem d_X5_init_8 : decode m_X5_init.2.1 8 = .ok (.dup, 1) := by decide +kernel
theorem d_X5_init_9 : decode m_X5_init.2.1 9 = .ok (.invokespecial 11, 3) := by decide +kernel
theorem d_X5_init_12 : decode m_X5_init.2.1 12 = .ok (.putfield 12, 3) := by decide +kernel
theorem d_X5_init_15 : decode m_X5_init.2.1 15 = .ok (.aload_n 0, 1) := by decide +kernel
theorem d_X5_init_16 : decode m_X5_init.2.1 16 = .ok (.new 9, 3) := by decide +kernel
theorem d_X5_init_19 : decode m_X5_init.2.1 19 = .ok (.dup, 1) := by decide +kernel
theorem d_X5_init_20 : decode m_X5_init.2.1 20 = .ok (.invokespecial 11, 3) := by decide +kernel
theorem d_X5_init_23 : decode m_X5_init.2.1 23 = .ok (.putfield 18, 3) := by decide +kernel
theorem d_X5_init_26 : decode m_X5_init.2.1 26 = .ok (.aload_n 0, 1) := by decide +kernel
theorem d_X5_init_27 : decode m_X5_init.2.1 27 = .ok (.iconst 4, 1) := by decide +kernel
theorem d_X5_init_28 : decode m_X5_init.2.1 28 = .ok (.anewarray 21, 3) := by decide +kernel
theorem d_X5_init_31 : decode m_X5_init.2.1 31 = .ok (.putfield 23, 3) := by decide +kernel
theorem d_X5_init_34 : decode m_X5_init.2.1 34 = .ok (.aload_n 0, 1) := by decide +kernel
theorem d_X5_init_35 : decode m_X5_init.2.1 35 = .ok (.bipush 8, 2) := by decide +kernel
theorem d_X5_init_37 : decode m_X5_init.2.1 37 = .ok (.newarray .int, 2) := by decide +kernel
theorem d_X5_init_39 : decode m_X5_init.2.1 39 = .ok (.putfield 27, 3) := by decide +kernel
theorem d_X5_init_42 : decode m_X5_init.2.1 42 = .ok (.aload_n 0, 1) := by decide +kernel
theorem d_X5_init_43 : decode m_X5_init.2.1 43 = .ok (.bipush 8, 2) := by decide +kernel
theorem d_X5_init_45 : decode m_X5_init.2.1 45 = .ok (.newarray .int, 2) := by decide +kernel
theorem d_X5_init_47 : decode m_X5_init.2.1 47 = .ok (.putfield 31, 3) := by decide +kernel
theorem d_X5_init_50 : decode m_X5_init.2.1 50 = .ok (.aload_n 0, 1) := by decide +kernel
theorem d_X5_init_51 : decode m_X5_init.2.1 51 = .ok (.iconst 4, 1) := by decide +kernel
theorem d_X5_init_52 : decode m_X5_init.2.1 52 = .ok (.newarray .int, 2) := by decide +kernel
theorem d_X5_init_54 : decode m_X5_init.2.1 54 = .ok (.putfield 34, 3) := by decide +kernel
theorem d_X5_init_57 : decode m_X5_init.2.1 57 = .ok (.aload_n 0, 1) := by decide +kernel
theorem d_X5_init_58 : decode m_X5_init.2.1 58 = .ok (.iconst 0, 1) := by decide +kernel
theorem d_X5_init_59 : decode m_X5_init.2.1 59 = .ok (.putfield 37, 3) := by decide +kernel
theorem d_X5_init_62 : decode m_X5_init.2.1 62 = .ok (.aload_n 0, 1) := by decide +kernel
theorem d_X5_init_63 : decode m_X5_init.2.1 63 = .ok (.iconst 0, 1) := by decide +kernel
theorem d_X5_init_64 : decode m_X5_init.2.1 64 = .ok (.putfield 41, 3) := by decide +kernel
theorem d_X5_init_67 : decode m_X5_init.2.1 67 = .ok (.aload_n 0, 1) := by decide +kernel
theorem d_X5_init_68 : decode m_X5_init.2.1 68 = .ok (.iconst 0, 1) := by decide +kernel
theorem d_X5_init_69 : decode m_X5_init.2.1 69 = .ok (.putfield 44, 3) := by decide +kernel
theorem d_X5_init_72 : decode m_X5_init.2.1 72 = .ok (.aload_n 0, 1) := by decide +kernel
theorem d_X5_init_73 : decode m_X5_init.2.1 73 = .ok (.iconst 0, 1) := by decide +kernel
theorem d_X5_init_74 : decode m_X5_init.2.1 74 = .ok (.putfield 47, 3) := by decide +kernel
theorem d_X5_init_77 : decode m_X5_init.2.1 77 = .ok (.iconst 0, 1) := by decide +kernel
theorem d_X5_init_78 : decode m_X5_init.2.1 78 = .ok (.istore_n 1, 1) := by decide +kernel
theorem d_X5_init_79 : decode m_X5_init.2.1 79 = .ok (.iload_n 1, 1) := by decide +kernel
theorem d_X5_init_80 : decode m_X5_init.2.1 80 = .ok (.iconst 4, 1) := by decide +kernel
theorem d_X5_init_81 : decode m_X5_init.2.1 81 = .ok (.if_icmp .ge 22, 3) := by decide +kernel
theorem d_X5_init_84 : decode m_X5_init.2.1 84 = .ok (.aload_n 0, 1) := by decide +kernel
theorem d_X5_init_85 : decode m_X5_init.2.1 85 = .ok (.getfield 23, 3) := by decide +kernel
theorem d_X5_init_88 : decode m_X5_init.2.1 88 = .ok (.iload_n 1, 1) := by decide +kernel
theorem d_X5_init_89 : decode m_X5_init.2.1 89 = .ok (.new 21, 3) := by decide +kernel
theorem d_X5_init_92 : decode m_X5_init.2.1 92 = .ok (.dup, 1) := by decide +kernel
theorem d_X5_init_93 : decode m_X5_init.2.1 93 = .ok (.invokespecial 50, 3) := by decide +kernel
theorem d_X5_init_96 : decode m_X5_init.2.1 96 = .ok (.aastore, 1) := by decide +kernel
theorem d_X5_init_97 : decode m_X5_init.2.1 97 = .ok (.iinc 1 1, 3) := by decide +kernel
theorem d_X5_init_100 : decode m_X5_init.2.1 100 = .ok (.goto (-21), 3) := by decide +kernel
theorem d_X5_init_103 : decode m_X5_init.2.1 103 = .ok (.return_, 1) := by decide +kernel
theorem d_X5_parish_0 : decode m_X5_parish.2.1 0 = .ok (.aload_n 0, 1) := by decide +kernel
theorem d_X5_parish_1 : decode m_X5_parish.2.1 1 = .ok (.iconst 0, 1) := by decide +kernel
theorem d_X5_parish_2 : decode m_X5_parish.2.1 2 = .ok (.putfield 47, 3) := by decide +kernel
theorem d_X5_parish_5 : decode m_X5_parish.2.1 5 = .ok (.iload_n 1, 1) := by decide +kernel
theorem d_X5_parish_6 : decode m_X5_parish.2.1 6 = .ok (.invokestatic 51, 3) := by decide +kernel
theorem d_X5_parish_9 : decode m_X5_parish.2.1 9 = .ok (.ifCond .ne 5, 3) := by decide +kernel
theorem d_X5_parish_12 : decode m_X5_parish.2.1 12 = .ok (.iconst (-1), 1) := by decide +kernel
theorem d_X5_parish_13 : decode m_X5_parish.2.1 13 = .ok (.ireturn, 1) := by decide +kernel
theorem d_X5_parish_14 : decode m_X5_parish.2.1 14 = .ok (.iload_n 2, 1) := by decide +kernel
theorem d_X5_parish_15 : decode m_X5_parish.2.1 15 = .ok (.invokestatic 55, 3) := by decide +kernel
theorem d_X5_parish_18 : decode m_X5_parish.2.1 18 = .ok (.ifCond .ne 6, 3) := by decide +kernel
theorem d_X5_parish_21 : decode m_X5_parish.2.1 21 = .ok (.bipush (-2), 2) := by decide +kernel
theorem d_X5_parish_23 : decode m_X5_parish.2.1 23 = .ok (.ireturn, 1) := by decide +kernel
theorem d_X5_parish_24 : decode m_X5_parish.2.1 24 = .ok (.aload_n 0, 1) := by decide +kernel
theorem d_X5_parish_25 : decode m_X5_parish.2.1 25 = .ok (.getfield 23, 3) := by decide +kernel
theorem d_X5_parish_28 : decode m_X5_parish.2.1 28 = .ok (.iload_n 1, 1) := by decide +kernel
theorem d_X5_parish_29 : decode m_X5_parish.2.1 29 = .ok (.aaload, 1) := by decide +kernel
theorem d_X5_parish_30 : decode m_X5_parish.2.1 30 = .ok (.astore 5, 2) := by decide +kernel
theorem d_X5_parish_32 : decode m_X5_parish.2.1 32 = .ok (.aload 5, 2) := by decide +kernel
theorem d_X5_parish_34 : decode m_X5_parish.2.1 34 = .ok (.iload_n 2, 1) := by decide +kernel
theorem d_X5_parish_35 : decode m_X5_parish.2.1 35 = .ok (.iload_n 3, 1) := by decide +kernel
theorem d_X5_parish_36 : decode m_X5_parish.2.1 36 = .ok (.iload 4, 2) := by decide +kernel
theorem d_X5_parish_38 : decode m_X5_parish.2.1 38 = .ok (.invokestatic 58, 3) := by decide +kernel
theorem d_X5_parish_41 : decode m_X5_parish.2.1 41 = .ok (.istore 6, 2) := by decide +kernel
theorem d_X5_parish_43 : decode m_X5_parish.2.1 43 = .ok (.iload 6, 2) := by decide +kernel
theorem d_X5_parish_45 : decode m_X5_parish.2.1 45 = .ok (.ifCond .eq 10, 3) := by decide +kernel
theorem d_X5_parish_48 : decode m_X5_parish.2.1 48 = .ok (.aload_n 0, 1) := by decide +kernel
theorem d_X5_parish_49 : decode m_X5_parish.2.1 49 = .ok (.iload 6, 2) := by decide +kernel
theorem d_X5_parish_51 : decode m_X5_parish.2.1 51 = .ok (.invokevirtual 62, 3) := by decide +kernel
theorem d_X5_parish_54 : decode m_X5_parish.2.1 54 = .ok (.ireturn, 1) := by decide +kernel
theorem d_X5_parish_55 : decode m_X5_parish.2.1 55 = .ok (.aload_n 0, 1) := by decide +kernel
theorem d_X5_parish_56 : decode m_X5_parish.2.1 56 = .ok (.aload 5, 2) := by decide +kernel
theorem d_X5_parish_58 : decode m_X5_parish.2.1 58 = .ok (.iload_n 3, 1) := by decide +kernel
theorem d_X5_parish_59 : decode m_X5_parish.2.1 59 = .ok (.iload 4, 2) := by decide +kernel
theorem d_X5_parish_61 : decode m_X5_parish.2.1 61 = .ok (.invokevirtual 66, 3) := by decide +kernel
theorem d_X5_parish_64 : decode m_X5_parish.2.1 64 = .ok (.istore 7, 2) := by decide +kernel
theorem d_X5_parish_66 : decode m_X5_parish.2.1 66 = .ok (.iload 7, 2) := by decide +kernel
theorem d_X5_parish_68 : decode m_X5_parish.2.1 68 = .ok (.bipush (-9), 2) := by decide +kernel
theorem d_X5_parish_70 : decode m_X5_parish.2.1 70 = .ok (.if_icmp .eq 9, 3) := by decide +kernel
theorem d_X5_parish_73 : decode m_X5_parish.2.1 73 = .ok (.bipush (-100), 2) := by decide +kernel
theorem d_X5_parish_75 : decode m_X5_parish.2.1 75 = .ok (.iload 7, 2) := by decide +kernel
theorem d_X5_parish_77 : decode m_X5_parish.2.1 77 = .ok (.isub, 1) := by decide +kernel
theorem d_X5_parish_78 : decode m_X5_parish.2.1 78 = .ok (.ireturn, 1) := by decide +kernel
theorem d_X5_parish_79 : decode m_X5_parish.2.1 79 = .ok (.aload_n 0, 1) := by decide +kernel
theorem d_X5_parish_80 : decode m_X5_parish.2.1 80 = .ok (.getfield 12, 3) := by decide +kernel
theorem d_X5_parish_83 : decode m_X5_parish.2.1 83 = .ok (.aload_n 0, 1) := by decide +kernel
theorem d_X5_parish_84 : decode m_X5_parish.2.1 84 = .ok (.getfield 18, 3) := by decide +kernel
theorem d_X5_parish_87 : decode m_X5_parish.2.1 87 = .ok (.invokevirtual 70, 3) := by decide +kernel
theorem d_X5_parish_90 : decode m_X5_parish.2.1 90 = .ok (.aload_n 0, 1) := by decide +kernel
theorem d_X5_parish_91 : decode m_X5_parish.2.1 91 = .ok (.iconst 0, 1) := by decide +kernel
theorem d_X5_parish_92 : decode m_X5_parish.2.1 92 = .ok (.putfield 37, 3) := by decide +kernel
theorem d_X5_parish_95 : decode m_X5_parish.2.1 95 = .ok (.aload_n 0, 1) := by decide +kernel
theorem d_X5_parish_96 : decode m_X5_parish.2.1 96 = .ok (.iconst 0, 1) := by decide +kernel
theorem d_X5_parish_97 : decode m_X5_parish.2.1 97 = .ok (.putfield 41, 3) := by decide +kernel
theorem d_X5_parish_100 : decode m_X5_parish.2.1 100 = .ok (.aload_n 0, 1) := by decide +kernel
theorem d_X5_parish_101 : decode m_X5_parish.2.1 101 = .ok (.getfield 12, 3) := by decide +kernel
theorem d_X5_parish_104 : decode m_X5_parish.2.1 104 = .ok (.getfield 74, 3) := by decide +kernel
theorem d_X5_parish_107 : decode m_X5_parish.2.1 107 = .ok (.ireturn, 1) := by decide +kernel
theorem d_X5_ofHouse_0 : decode m_X5_ofHouse.2.1 0 = .ok (.aload_n 0, 1) := by decide +kernel
theorem d_X5_ofHouse_1 : decode m_X5_ofHouse.2.1 1 = .ok (.getfield 12, 3) := by decide +kernel
theorem d_X5_ofHouse_4 : decode m_X5_ofHouse.2.1 4 = .ok (.iload_n 1, 1) := by decide +kernel
theorem d_X5_ofHouse_5 : decode m_X5_ofHouse.2.1 5 = .ok (.invokevirtual 77, 3) := by decide +kernel
theorem d_X5_ofHouse_8 : decode m_X5_ofHouse.2.1 8 = .ok (.ifCond .ne 5, 3) := by decide +kernel
theorem d_X5_ofHouse_11 : decode m_X5_ofHouse.2.1 11 = .ok (.iconst (-1), 1) := by decide +kernel
theorem d_X5_ofHouse_12 : decode m_X5_ofHouse.2.1 12 = .ok (.ireturn, 1) := by decide +kernel
theorem d_X5_ofHouse_13 : decode m_X5_ofHouse.2.1 13 = .ok (.aload_n 0, 1) := by decide +kernel
theorem d_X5_ofHouse_14 : decode m_X5_ofHouse.2.1 14 = .ok (.getfield 12, 3) := by decide +kernel
theorem d_X5_ofHouse_17 : decode m_X5_ofHouse.2.1 17 = .ok (.getfield 80, 3) := by decide +kernel
theorem d_X5_ofHouse_20 : decode m_X5_ofHouse.2.1 20 = .ok (.iload_n 1, 1) := by decide +kernel
theorem d_X5_ofHouse_21 : decode m_X5_ofHouse.2.1 21 = .ok (.aaload, 1) := by decide +kernel
theorem d_X5_ofHouse_22 : decode m_X5_ofHouse.2.1 22 = .ok (.astore_n 3, 1) := by decide +kernel
theorem d_X5_ofHouse_23 : decode m_X5_ofHouse.2.1 23 = .ok (.iload_n 2, 1) := by decide +kernel
theorem d_X5_ofHouse_24 : decode m_X5_ofHouse.2.1 24 = .ok (.tableswitch 95 0 6 #[44, 49, 54, 59, 64, 77, 90], 44) := by decide +kernel
theorem d_X5_ofHouse_68 : decode m_X5_ofHouse.2.1 68 = .ok (.aload_n 3, 1) := by decide +kernel
theorem d_X5_ofHouse_69 : decode m_X5_ofHouse.2.1 69 = .ok (.getfield 84, 3) := by decide +kernel
theorem d_X5_ofHouse_72 : decode m_X5_ofHouse.2.1 72 = .ok (.ireturn, 1) := by decide +kernel
theorem d_X5_ofHouse_73 : decode m_X5_ofHouse.2.1 73 = .ok (.aload_n 3, 1) := by decide +kernel
theorem d_X5_ofHouse_74 : decode m_X5_ofHouse.2.1 74 = .ok (.getfield 89, 3) := by decide +kernel
theorem d_X5_ofHouse_77 : decode m_X5_ofHouse.2.1 77 = .ok (.ireturn, 1) := by decide +kernel
theorem d_X5_ofHouse_78 : decode m_X5_ofHouse.2.1 78 = .ok (.aload_n 3, 1) := by decide +kernel
theorem d_X5_ofHouse_79 : decode m_X5_ofHouse.2.1 79 = .ok (.getfield 92, 3) := by decide +kernel
theorem d_X5_ofHouse_82 : decode m_X5_ofHouse.2.1 82 = .ok (.ireturn, 1) := by decide +kernel
theorem d_X5_ofHouse_83 : decode m_X5_ofHouse.2.1 83 = .ok (.aload_n 3, 1) := by decide +kernel
theorem d_X5_ofHouse_84 : decode m_X5_ofHouse.2.1 84 = .ok (.invokevirtual 95, 3) := by decide +kernel
theorem d_X5_ofHouse_87 : decode m_X5_ofHouse.2.1 87 = .ok (.ireturn, 1) := by decide +kernel
theorem d_X5_ofHouse_88 : decode m_X5_ofHouse.2.1 88 = .ok (.aload_n 3, 1) := by decide +kernel
theorem d_X5_ofHouse_89 : decode m_X5_ofHouse.2.1 89 = .ok (.getfield 99, 3) := by decide +kernel
theorem d_X5_ofHouse_92 : decode m_X5_ofHouse.2.1 92 = .ok (.ifCond .eq 7, 3) := by decide +kernel
theorem d_X5_ofHouse_95 : decode m_X5_ofHouse.2.1 95 = .ok (.iconst 1, 1) := by decide +kernel
theorem d_X5_ofHouse_96 : decode m_X5_ofHouse.2.1 96 = .ok (.goto 4, 3) := by decide +kernel
theorem d_X5_ofHouse_99 : decode m_X5_ofHouse.2.1 99 = .ok (.iconst 0, 1) := by decide +kernel
theorem d_X5_ofHouse_100 : decode m_X5_ofHouse.2.1 100 = .ok (.ireturn, 1) := by decide +kernel
theorem d_X5_ofHouse_101 : decode m_X5_ofHouse.2.1 101 = .ok (.aload_n 3, 1) := by decide +kernel
theorem d_X5_ofHouse_102 : decode m_X5_ofHouse.2.1 102 = .ok (.invokevirtual 103, 3) := by decide +kernel
theorem d_X5_ofHouse_105 : decode m_X5_ofHouse.2.1 105 = .ok (.ifCond .eq 7, 3) := by decide +kernel
theorem d_X5_ofHouse_108 : decode m_X5_ofHouse.2.1 108 = .ok (.iconst 1, 1) := by decide +kernel
theorem d_X5_ofHouse_109 : decode m_X5_ofHouse.2.1 109 = .ok (.goto 4, 3) := by decide +kernel
theorem d_X5_ofHouse_112 : decode m_X5_ofHouse.2.1 112 = .ok (.iconst 0, 1) := by decide +kernel
theorem d_X5_ofHouse_113 : decode m_X5_ofHouse.2.1 113 = .ok (.ireturn, 1) := by decide +kernel
theorem d_X5_ofHouse_114 : decode m_X5_ofHouse.2.1 114 = .ok (.aload_n 3, 1) := by decide +kernel
theorem d_X5_ofHouse_115 : decode m_X5_ofHouse.2.1 115 = .ok (.getfield 107, 3) := by decide +kernel
theorem d_X5_ofHouse_118 : decode m_X5_ofHouse.2.1 118 = .ok (.ireturn, 1) := by decide +kernel
theorem d_X5_ofHouse_119 : decode m_X5_ofHouse.2.1 119 = .ok (.bipush (-2), 2) := by decide +kernel
theorem d_X5_ofHouse_121 : decode m_X5_ofHouse.2.1 121 = .ok (.ireturn, 1) := by decide +kernel
theorem d_X5_ofStone_0 : decode m_X5_ofStone.2.1 0 = .ok (.aload_n 0, 1) := by decide +kernel
theorem d_X5_ofStone_1 : decode m_X5_ofStone.2.1 1 = .ok (.getfield 12, 3) := by decide +kernel
theorem d_X5_ofStone_4 : decode m_X5_ofStone.2.1 4 = .ok (.iload_n 1, 1) := by decide +kernel
theorem d_X5_ofStone_5 : decode m_X5_ofStone.2.1 5 = .ok (.invokevirtual 110, 3) := by decide +kernel
theorem d_X5_ofStone_8 : decode m_X5_ofStone.2.1 8 = .ok (.ifCond .ne 5, 3) := by decide +kernel
theorem d_X5_ofStone_11 : decode m_X5_ofStone.2.1 11 = .ok (.iconst (-1), 1) := by decide +kernel
theorem d_X5_ofStone_12 : decode m_X5_ofStone.2.1 12 = .ok (.ireturn, 1) := by decide +kernel
theorem d_X5_ofStone_13 : decode m_X5_ofStone.2.1 13 = .ok (.aload_n 0, 1) := by decide +kernel
theorem d_X5_ofStone_14 : decode m_X5_ofStone.2.1 14 = .ok (.getfield 12, 3) := by decide +kernel
theorem d_X5_ofStone_17 : decode m_X5_ofStone.2.1 17 = .ok (.getfield 113, 3) := by decide +kernel
theorem d_X5_ofStone_20 : decode m_X5_ofStone.2.1 20 = .ok (.iload_n 1, 1) := by decide +kernel
theorem d_X5_ofStone_21 : decode m_X5_ofStone.2.1 21 = .ok (.aaload, 1) := by decide +kernel
theorem d_X5_ofStone_22 : decode m_X5_ofStone.2.1 22 = .ok (.astore_n 3, 1) := by decide +kernel
theorem d_X5_ofStone_23 : decode m_X5_ofStone.2.1 23 = .ok (.iload_n 2, 1) := by decide +kernel
theorem d_X5_ofStone_24 : decode m_X5_ofStone.2.1 24 = .ok (.lookupswitch 46 #[(0, 28), (1, 33)], 28) := by decide +kernel
theorem d_X5_ofStone_52 : decode m_X5_ofStone.2.1 52 = .ok (.aload_n 3, 1) := by decide +kernel
theorem d_X5_ofStone_53 : decode m_X5_ofStone.2.1 53 = .ok (.getfield 117, 3) := by decide +kernel
theorem d_X5_ofStone_56 : decode m_X5_ofStone.2.1 56 = .ok (.ireturn, 1) := by decide +kernel
theorem d_X5_ofStone_57 : decode m_X5_ofStone.2.1 57 = .ok (.aload_n 3, 1) := by decide +kernel
theorem d_X5_ofStone_58 : decode m_X5_ofStone.2.1 58 = .ok (.getfield 122, 3) := by decide +kernel
theorem d_X5_ofStone_61 : decode m_X5_ofStone.2.1 61 = .ok (.ifCond .eq 7, 3) := by decide +kernel
theorem d_X5_ofStone_64 : decode m_X5_ofStone.2.1 64 = .ok (.iconst 1, 1) := by decide +kernel
theorem d_X5_ofStone_65 : decode m_X5_ofStone.2.1 65 = .ok (.goto 4, 3) := by decide +kernel
theorem d_X5_ofStone_68 : decode m_X5_ofStone.2.1 68 = .ok (.iconst 0, 1) := by decide +kernel
theorem d_X5_ofStone_69 : decode m_X5_ofStone.2.1 69 = .ok (.ireturn, 1) := by decide +kernel
theorem d_X5_ofStone_70 : decode m_X5_ofStone.2.1 70 = .ok (.bipush (-2), 2) := by decide +kernel
theorem d_X5_ofStone_72 : decode m_X5_ofStone.2.1 72 = .ok (.ireturn, 1) := by decide +kernel
theorem d_X5_sleep_0 : decode m_X5_sleep.2.1 0 = .ok (.aload_n 0, 1) := by decide +kernel
theorem d_X5_sleep_1 : decode m_X5_sleep.2.1 1 = .ok (.getfield 12, 3) := by decide +kernel
theorem d_X5_sleep_4 : decode m_X5_sleep.2.1 4 = .ok (.iload_n 1, 1) := by decide +kernel
theorem d_X5_sleep_5 : decode m_X5_sleep.2.1 5 = .ok (.invokevirtual 77, 3) := by decide +kernel
theorem d_X5_sleep_8 : decode m_X5_sleep.2.1 8 = .ok (.ifCond .ne 5, 3) := by decide +kernel
theorem d_X5_sleep_11 : decode m_X5_sleep.2.1 11 = .ok (.iconst (-1), 1) := by decide +kernel
theorem d_X5_sleep_12 : decode m_X5_sleep.2.1 12 = .ok (.ireturn, 1) := by decide +kernel
theorem d_X5_sleep_13 : decode m_X5_sleep.2.1 13 = .ok (.iload_n 2, 1) := by decide +kernel
theorem d_X5_sleep_14 : decode m_X5_sleep.2.1 14 = .ok (.iconst 0, 1) := by decide +kernel
theorem d_X5_sleep_15 : decode m_X5_sleep.2.1 15 = .ok (.bipush 9, 2) := by decide +kernel
theorem d_X5_sleep_17 : decode m_X5_sleep.2.1 17 = .ok (.invokestatic 125, 3) := by decide +kernel
theorem d_X5_sleep_20 : decode m_X5_sleep.2.1 20 = .ok (.ifCond .ne 6, 3) := by decide +kernel
theorem d_X5_sleep_23 : decode m_X5_sleep.2.1 23 = .ok (.bipush (-2), 2) := by decide +kernel
theorem d_X5_sleep_25 : decode m_X5_sleep.2.1 25 = .ok (.ireturn, 1) := by decide +kernel
theorem d_X5_sleep_26 : decode m_X5_sleep.2.1 26 = .ok (.aload_n 0, 1) := by decide +kernel
theorem d_X5_sleep_27 : decode m_X5_sleep.2.1 27 = .ok (.getfield 12, 3) := by decide +kernel
theorem d_X5_sleep_30 : decode m_X5_sleep.2.1 30 = .ok (.getfield 80, 3) := by decide +kernel
theorem d_X5_sleep_33 : decode m_X5_sleep.2.1 33 = .ok (.iload_n 1, 1) := by decide +kernel
theorem d_X5_sleep_34 : decode m_X5_sleep.2.1 34 = .ok (.aaload, 1) := by decide +kernel
theorem d_X5_sleep_35 : decode m_X5_sleep.2.1 35 = .ok (.astore_n 3, 1) := by decide +kernel
theorem d_X5_sleep_36 : decode m_X5_sleep.2.1 36 = .ok (.aload_n 3, 1) := by decide +kernel
theorem d_X5_sleep_37 : decode m_X5_sleep.2.1 37 = .ok (.getfield 92, 3) := by decide +kernel
theorem d_X5_sleep_40 : decode m_X5_sleep.2.1 40 = .ok (.istore 4, 2) := by decide +kernel
theorem d_X5_sleep_42 : decode m_X5_sleep.2.1 42 = .ok (.aload_n 3, 1) := by decide +kernel
theorem d_X5_sleep_43 : decode m_X5_sleep.2.1 43 = .ok (.iload_n 2, 1) := by decide +kernel
theorem d_X5_sleep_44 : decode m_X5_sleep.2.1 44 = .ok (.putfield 92, 3) := by decide +kernel
theorem d_X5_sleep_47 : decode m_X5_sleep.2.1 47 = .ok (.iload 4, 2) := by decide +kernel
theorem d_X5_sleep_49 : decode m_X5_sleep.2.1 49 = .ok (.ireturn, 1) := by decide +kernel
theorem d_X5_own_0 : decode m_X5_own.2.1 0 = .ok (.aload_n 0, 1) := by decide +kernel
theorem d_X5_own_1 : decode m_X5_own.2.1 1 = .ok (.getfield 12, 3) := by decide +kernel
theorem d_X5_own_4 : decode m_X5_own.2.1 4 = .ok (.iload_n 1, 1) := by decide +kernel
theorem d_X5_own_5 : decode m_X5_own.2.1 5 = .ok (.invokevirtual 77, 3) := by decide +kernel
theorem d_X5_own_8 : decode m_X5_own.2.1 8 = .ok (.ifCond .ne 5, 3) := by decide +kernel
theorem d_X5_own_11 : decode m_X5_own.2.1 11 = .ok (.iconst (-1), 1) := by decide +kernel
theorem d_X5_own_12 : decode m_X5_own.2.1 12 = .ok (.ireturn, 1) := by decide +kernel
theorem d_X5_own_13 : decode m_X5_own.2.1 13 = .ok (.aload_n 0, 1) := by decide +kernel
theorem d_X5_own_14 : decode m_X5_own.2.1 14 = .ok (.getfield 12, 3) := by decide +kernel
theorem d_X5_own_17 : decode m_X5_own.2.1 17 = .ok (.getfield 80, 3) := by decide +kernel
theorem d_X5_own_20 : decode m_X5_own.2.1 20 = .ok (.iload_n 1, 1) := by decide +kernel
theorem d_X5_own_21 : decode m_X5_own.2.1 21 = .ok (.aaload, 1) := by decide +kernel
theorem d_X5_own_22 : decode m_X5_own.2.1 22 = .ok (.invokevirtual 129, 3) := by decide +kernel
theorem d_X5_own_25 : decode m_X5_own.2.1 25 = .ok (.ifCond .eq 7, 3) := by decide +kernel
theorem d_X5_own_28 : decode m_X5_own.2.1 28 = .ok (.iconst 1, 1) := by decide +kernel
theorem d_X5_own_29 : decode m_X5_own.2.1 29 = .ok (.goto 4, 3) := by decide +kernel
theorem d_X5_own_32 : decode m_X5_own.2.1 32 = .ok (.iconst 0, 1) := by decide +kernel
theorem d_X5_own_33 : decode m_X5_own.2.1 33 = .ok (.ireturn, 1) := by decide +kernel
theorem d_X5_lay_0 : decode m_X5_lay.2.1 0 = .ok (.aload_n 0, 1) := by decide +kernel
theorem d_X5_lay_1 : decode m_X5_lay.2.1 1 = .ok (.getfield 12, 3) := by decide +kernel
theorem d_X5_lay_4 : decode m_X5_lay.2.1 4 = .ok (.iload_n 1, 1) := by decide +kernel
theorem d_X5_lay_5 : decode m_X5_lay.2.1 5 = .ok (.invokevirtual 110, 3) := by decide +kernel
theorem d_X5_lay_8 : decode m_X5_lay.2.1 8 = .ok (.ifCond .ne 5, 3) := by decide +kernel
theorem d_X5_lay_11 : decode m_X5_lay.2.1 11 = .ok (.iconst (-1), 1) := by decide +kernel
theorem d_X5_lay_12 : decode m_X5_lay.2.1 12 = .ok (.ireturn, 1) := by decide +kernel
theorem d_X5_lay_13 : decode m_X5_lay.2.1 13 = .ok (.aload_n 0, 1) := by decide +kernel
theorem d_X5_lay_14 : decode m_X5_lay.2.1 14 = .ok (.getfield 12, 3) := by decide +kernel
theorem d_X5_lay_17 : decode m_X5_lay.2.1 17 = .ok (.getfield 113, 3) := by decide +kernel
theorem d_X5_lay_20 : decode m_X5_lay.2.1 20 = .ok (.iload_n 1, 1) := by decide +kernel
theorem d_X5_lay_21 : decode m_X5_lay.2.1 21 = .ok (.aaload, 1) := by decide +kernel
theorem d_X5_lay_22 : decode m_X5_lay.2.1 22 = .ok (.astore_n 2, 1) := by decide +kernel
theorem d_X5_lay_23 : decode m_X5_lay.2.1 23 = .ok (.aload_n 2, 1) := by decide +kernel
theorem d_X5_lay_24 : decode m_X5_lay.2.1 24 = .ok (.getfield 122, 3) := by decide +kernel
theorem d_X5_lay_27 : decode m_X5_lay.2.1 27 = .ok (.ifCond .eq 6, 3) := by decide +kernel
theorem d_X5_lay_30 : decode m_X5_lay.2.1 30 = .ok (.bipush (-3), 2) := by decide +kernel
theorem d_X5_lay_32 : decode m_X5_lay.2.1 32 = .ok (.ireturn, 1) := by decide +kernel
theorem d_X5_lay_33 : decode m_X5_lay.2.1 33 = .ok (.aload_n 2, 1) := by decide +kernel
theorem d_X5_lay_34 : decode m_X5_lay.2.1 34 = .ok (.iconst 1, 1) := by decide +kernel
theorem d_X5_lay_35 : decode m_X5_lay.2.1 35 = .ok (.putfield 122, 3) := by decide +kernel
theorem d_X5_lay_38 : decode m_X5_lay.2.1 38 = .ok (.aload_n 0, 1) := by decide +kernel
theorem d_X5_lay_39 : decode m_X5_lay.2.1 39 = .ok (.getfield 12, 3) := by decide +kernel
theorem d_X5_lay_42 : decode m_X5_lay.2.1 42 = .ok (.invokevirtual 132, 3) := by decide +kernel
theorem d_X5_lay_45 : decode m_X5_lay.2.1 45 = .ok (.ireturn, 1) := by decide +kernel
theorem d_X5_night_0 : decode m_X5_night.2.1 0 = .ok (.iload_n 1, 1) := by decide +kernel
theorem d_X5_night_1 : decode m_X5_night.2.1 1 = .ok (.iconst 1, 1) := by decide +kernel
theorem d_X5_night_2 : decode m_X5_night.2.1 2 = .ok (.bipush 60, 2) := by decide +kernel
theorem d_X5_night_4 : decode m_X5_night.2.1 4 = .ok (.invokestatic 125, 3) := by decide +kernel
theorem d_X5_night_7 : decode m_X5_night.2.1 7 = .ok (.ifCond .ne 6, 3) := by decide +kernel
theorem d_X5_night_10 : decode m_X5_night.2.1 10 = .ok (.bipush (-2), 2) := by decide +kernel
theorem d_X5_night_12 : decode m_X5_night.2.1 12 = .ok (.ireturn, 1) := by decide +kernel
theorem d_X5_night_13 : decode m_X5_night.2.1 13 = .ok (.aload_n 0, 1) := by decide +kernel
theorem d_X5_night_14 : decode m_X5_night.2.1 14 = .ok (.invokevirtual 135, 3) := by decide +kernel
theorem d_X5_night_17 : decode m_X5_night.2.1 17 = .ok (.ifCond .ne 6, 3) := by decide +kernel
theorem d_X5_night_20 : decode m_X5_night.2.1 20 = .ok (.bipush (-3), 2) := by decide +kernel
theorem d_X5_night_22 : decode m_X5_night.2.1 22 = .ok (.ireturn, 1) := by decide +kernel
theorem d_X5_night_23 : decode m_X5_night.2.1 23 = .ok (.aload_n 0, 1) := by decide +kernel
theorem d_X5_night_24 : decode m_X5_night.2.1 24 = .ok (.getfield 12, 3) := by decide +kernel
theorem d_X5_night_27 : decode m_X5_night.2.1 27 = .ok (.iload_n 1, 1) := by decide +kernel
theorem d_X5_night_28 : decode m_X5_night.2.1 28 = .ok (.invokevirtual 138, 3) := by decide +kernel
theorem d_X5_night_31 : decode m_X5_night.2.1 31 = .ok (.aload_n 0, 1) := by decide +kernel
theorem d_X5_night_32 : decode m_X5_night.2.1 32 = .ok (.dup, 1) := by decide +kernel
theorem d_X5_night_33 : decode m_X5_night.2.1 33 = .ok (.getfield 41, 3) := by decide +kernel
theorem d_X5_night_36 : decode m_X5_night.2.1 36 = .ok (.iload_n 1, 1) := by decide +kernel
theorem d_X5_night_37 : decode m_X5_night.2.1 37 = .ok (.iadd, 1) := by decide +kernel
theorem d_X5_night_38 : decode m_X5_night.2.1 38 = .ok (.putfield 41, 3) := by decide +kernel
theorem d_X5_night_41 : decode m_X5_night.2.1 41 = .ok (.aload_n 0, 1) := by decide +kernel
theorem d_X5_night_42 : decode m_X5_night.2.1 42 = .ok (.getfield 12, 3) := by decide +kernel
theorem d_X5_night_45 : decode m_X5_night.2.1 45 = .ok (.invokevirtual 132, 3) := by decide +kernel
theorem d_X5_night_48 : decode m_X5_night.2.1 48 = .ok (.ireturn, 1) := by decide +kernel
