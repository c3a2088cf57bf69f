theorem d_D_init_0 : decode b_D_init 0 = .ok (.aload_n 0, 1) := by decide +kernel
theorem d_D_init_1 : decode b_D_init 1 = .ok (.invokespecial 1, 3) := by decide +kernel
theorem d_D_init_4 : decode b_D_init 4 = .ok (.bipush 8, 2) := by decide +kernel
theorem d_D_init_6 : decode b_D_init 6 = .ok (.sipush 128, 3) := by decide +kernel
theorem d_D_init_9 : decode b_D_init 9 = .ok (.iload_n 1, 1) := by decide +kernel
theorem d_D_init_10 : decode b_D_init 10 = .ok (.invokestatic 9, 3) := by decide +kernel
theorem d_D_init_13 : decode b_D_init 13 = .ok (.invokestatic 15, 3) := by decide +kernel
theorem d_D_init_16 : decode b_D_init 16 = .ok (.istore_n 2, 1) := by decide +kernel
theorem d_D_init_17 : decode b_D_init 17 = .ok (.aload_n 0, 1) := by decide +kernel
theorem d_D_init_18 : decode b_D_init 18 = .ok (.new 18, 3) := by decide +kernel
theorem d_D_init_21 : decode b_D_init 21 = .ok (.dup, 1) := by decide +kernel
theorem d_D_init_22 : decode b_D_init 22 = .ok (.iload_n 2, 1) := by decide +kernel
theorem d_D_init_23 : decode b_D_init 23 = .ok (.invokespecial 20, 3) := by decide +kernel
theorem d_D_init_26 : decode b_D_init 26 = .ok (.putfield 23, 3) := by decide +kernel
theorem d_D_init_29 : decode b_D_init 29 = .ok (.aload_n 0, 1) := by decide +kernel
theorem d_D_init_30 : decode b_D_init 30 = .ok (.new 27, 3) := by decide +kernel
theorem d_D_init_33 : decode b_D_init 33 = .ok (.dup, 1) := by decide +kernel
theorem d_D_init_34 : decode b_D_init 34 = .ok (.iload_n 2, 1) := by decide +kernel
theorem d_D_init_35 : decode b_D_init 35 = .ok (.invokespecial 29, 3) := by decide +kernel
theorem d_D_init_38 : decode b_D_init 38 = .ok (.putfield 30, 3) := by decide +kernel
theorem d_D_init_41 : decode b_D_init 41 = .ok (.aload_n 0, 1) := by decide +kernel
theorem d_D_init_42 : decode b_D_init 42 = .ok (.bipush 24, 2) := by decide +kernel
theorem d_D_init_44 : decode b_D_init 44 = .ok (.newarray .int, 2) := by decide +kernel
theorem d_D_init_46 : decode b_D_init 46 = .ok (.putfield 34, 3) := by decide +kernel
theorem d_D_init_49 : decode b_D_init 49 = .ok (.aload_n 0, 1) := by decide +kernel
theorem d_D_init_50 : decode b_D_init 50 = .ok (.sipush 4096, 3) := by decide +kernel
theorem d_D_init_53 : decode b_D_init 53 = .ok (.newarray .byte, 2) := by decide +kernel
theorem d_D_init_55 : decode b_D_init 55 = .ok (.putfield 38, 3) := by decide +kernel
theorem d_D_init_58 : decode b_D_init 58 = .ok (.aload_n 0, 1) := by decide +kernel
theorem d_D_init_59 : decode b_D_init 59 = .ok (.iload_n 2, 1) := by decide +kernel
theorem d_D_init_60 : decode b_D_init 60 = .ok (.newarray .int, 2) := by decide +kernel
theorem d_D_init_62 : decode b_D_init 62 = .ok (.putfield 42, 3) := by decide +kernel
theorem d_D_init_65 : decode b_D_init 65 = .ok (.aload_n 0, 1) := by decide +kernel
theorem d_D_init_66 : decode b_D_init 66 = .ok (.new 45, 3) := by decide +kernel
theorem d_D_init_69 : decode b_D_init 69 = .ok (.dup, 1) := by decide +kernel
theorem d_D_init_70 : decode b_D_init 70 = .ok (.invokespecial 47, 3) := by decide +kernel
theorem d_D_init_73 : decode b_D_init 73 = .ok (.putfield 48, 3) := by decide +kernel
theorem d_D_init_76 : decode b_D_init 76 = .ok (.aload_n 0, 1) := by decide +kernel
theorem d_D_init_77 : decode b_D_init 77 = .ok (.new 45, 3) := by decide +kernel
theorem d_D_init_80 : decode b_D_init 80 = .ok (.dup, 1) := by decide +kernel
theorem d_D_init_81 : decode b_D_init 81 = .ok (.invokespecial 47, 3) := by decide +kernel
theorem d_D_init_84 : decode b_D_init 84 = .ok (.putfield 52, 3) := by decide +kernel
theorem d_D_init_87 : decode b_D_init 87 = .ok (.return_, 1) := by decide +kernel
theorem d_P_init_0 : decode b_P_init 0 = .ok (.aload_n 0, 1) := by decide +kernel
theorem d_P_init_1 : decode b_P_init 1 = .ok (.invokespecial 3, 3) := by decide +kernel
theorem d_P_init_4 : decode b_P_init 4 = .ok (.aload_n 0, 1) := by decide +kernel
theorem d_P_init_5 : decode b_P_init 5 = .ok (.iload_n 1, 1) := by decide +kernel
theorem d_P_init_6 : decode b_P_init 6 = .ok (.sipush 4096, 3) := by decide +kernel
theorem d_P_init_9 : decode b_P_init 9 = .ok (.imul, 1) := by decide +kernel
theorem d_P_init_10 : decode b_P_init 10 = .ok (.newarray .byte, 2) := by decide +kernel
theorem d_P_init_12 : decode b_P_init 12 = .ok (.putfield 9, 3) := by decide +kernel
theorem d_P_init_15 : decode b_P_init 15 = .ok (.aload_n 0, 1) := by decide +kernel
theorem d_P_init_16 : decode b_P_init 16 = .ok (.iconst (-1), 1) := by decide +kernel
theorem d_P_init_17 : decode b_P_init 17 = .ok (.putfield 15, 3) := by decide +kernel
theorem d_P_init_20 : decode b_P_init 20 = .ok (.return_, 1) := by decide +kernel
theorem d_Tp_init_0 : decode b_Tp_init 0 = .ok (.aload_n 0, 1) := by decide +kernel
theorem d_Tp_init_1 : decode b_Tp_init 1 = .ok (.invokespecial 3, 3) := by decide +kernel
theorem d_Tp_init_4 : decode b_Tp_init 4 = .ok (.aload_n 0, 1) := by decide +kernel
theorem d_Tp_init_5 : decode b_Tp_init 5 = .ok (.iload_n 1, 1) := by decide +kernel
theorem d_Tp_init_6 : decode b_Tp_init 6 = .ok (.sipush 4096, 3) := by decide +kernel
theorem d_Tp_init_9 : decode b_Tp_init 9 = .ok (.imul, 1) := by decide +kernel
theorem d_Tp_init_10 : decode b_Tp_init 10 = .ok (.newarray .byte, 2) := by decide +kernel
theorem d_Tp_init_12 : decode b_Tp_init 12 = .ok (.putfield 9, 3) := by decide +kernel
theorem d_Tp_init_15 : decode b_Tp_init 15 = .ok (.return_, 1) := by decide +kernel
theorem d_M_init_0 : decode b_M_init 0 = .ok (.aload_n 0, 1) := by decide +kernel
theorem d_M_init_1 : decode b_M_init 1 = .ok (.invokespecial 5, 3) := by decide +kernel
theorem d_M_init_4 : decode b_M_init 4 = .ok (.aload_n 0, 1) := by decide +kernel
theorem d_M_init_5 : decode b_M_init 5 = .ok (.sipush 200, 3) := by decide +kernel
theorem d_M_init_8 : decode b_M_init 8 = .ok (.newarray .int, 2) := by decide +kernel
theorem d_M_init_10 : decode b_M_init 10 = .ok (.putfield 11, 3) := by decide +kernel
theorem d_M_init_13 : decode b_M_init 13 = .ok (.aload_n 0, 1) := by decide +kernel
theorem d_M_init_14 : decode b_M_init 14 = .ok (.sipush 200, 3) := by decide +kernel
theorem d_M_init_17 : decode b_M_init 17 = .ok (.newarray .int, 2) := by decide +kernel
theorem d_M_init_19 : decode b_M_init 19 = .ok (.putfield 15, 3) := by decide +kernel
theorem d_M_init_22 : decode b_M_init 22 = .ok (.aload_n 0, 1) := by decide +kernel
theorem d_M_init_23 : decode b_M_init 23 = .ok (.sipush 200, 3) := by decide +kernel
theorem d_M_init_26 : decode b_M_init 26 = .ok (.newarray .int, 2) := by decide +kernel
theorem d_M_init_28 : decode b_M_init 28 = .ok (.putfield 18, 3) := by decide +kernel
theorem d_M_init_31 : decode b_M_init 31 = .ok (.aload_n 0, 1) := by decide +kernel
theorem d_M_init_32 : decode b_M_init 32 = .ok (.bipush 24, 2) := by decide +kernel
theorem d_M_init_34 : decode b_M_init 34 = .ok (.newarray .int, 2) := by decide +kernel
theorem d_M_init_36 : decode b_M_init 36 = .ok (.putfield 21, 3) := by decide +kernel
theorem d_M_init_39 : decode b_M_init 39 = .ok (.return_, 1) := by decide +kernel
theorem d_D_recover_0 : decode b_D_recover 0 = .ok (.aload_n 0, 1) := by decide +kernel
theorem d_D_recover_1 : decode b_D_recover 1 = .ok (.getfield 23, 3) := by decide +kernel
theorem d_D_recover_4 : decode b_D_recover 4 = .ok (.iconst (-1), 1) := by decide +kernel
theorem d_D_recover_5 : decode b_D_recover 5 = .ok (.invokevirtual 138, 3) := by decide +kernel
theorem d_D_recover_8 : decode b_D_recover 8 = .ok (.aload_n 0, 1) := by decide +kernel
theorem d_D_recover_9 : decode b_D_recover 9 = .ok (.getfield 30, 3) := by decide +kernel
theorem d_D_recover_12 : decode b_D_recover 12 = .ok (.iconst 0, 1) := by decide +kernel
theorem d_D_recover_13 : decode b_D_recover 13 = .ok (.putfield 79, 3) := by decide +kernel
theorem d_D_recover_16 : decode b_D_recover 16 = .ok (.aload_n 0, 1) := by decide +kernel
theorem d_D_recover_17 : decode b_D_recover 17 = .ok (.getfield 48, 3) := by decide +kernel
theorem d_D_recover_20 : decode b_D_recover 20 = .ok (.aload_n 0, 1) := by decide +kernel
theorem d_D_recover_21 : decode b_D_recover 21 = .ok (.getfield 23, 3) := by decide +kernel
theorem d_D_recover_24 : decode b_D_recover 24 = .ok (.iconst 0, 1) := by decide +kernel
theorem d_D_recover_25 : decode b_D_recover 25 = .ok (.invokevirtual 144, 3) := by decide +kernel
theorem d_D_recover_28 : decode b_D_recover 28 = .ok (.aload_n 0, 1) := by decide +kernel
theorem d_D_recover_29 : decode b_D_recover 29 = .ok (.getfield 52, 3) := by decide +kernel
theorem d_D_recover_32 : decode b_D_recover 32 = .ok (.aload_n 0, 1) := by decide +kernel
theorem d_D_recover_33 : decode b_D_recover 33 = .ok (.getfield 23, 3) := by decide +kernel
theorem d_D_recover_36 : decode b_D_recover 36 = .ok (.iconst 1, 1) := by decide +kernel
theorem d_D_recover_37 : decode b_D_recover 37 = .ok (.invokevirtual 144, 3) := by decide +kernel
theorem d_D_recover_40 : decode b_D_recover 40 = .ok (.aload_n 0, 1) := by decide +kernel
theorem d_D_recover_41 : decode b_D_recover 41 = .ok (.getfield 52, 3) := by decide +kernel
theorem d_D_recover_44 : decode b_D_recover 44 = .ok (.getfield 148, 3) := by decide +kernel
theorem d_D_recover_47 : decode b_D_recover 47 = .ok (.aload_n 0, 1) := by decide +kernel
theorem d_D_recover_48 : decode b_D_recover 48 = .ok (.getfield 48, 3) := by decide +kernel
theorem d_D_recover_51 : decode b_D_recover 51 = .ok (.getfield 148, 3) := by decide +kernel
theorem d_D_recover_54 : decode b_D_recover 54 = .ok (.if_icmp .le 7, 3) := by decide +kernel
theorem d_D_recover_57 : decode b_D_recover 57 = .ok (.aload_n 0, 1) := by decide +kernel
theorem d_D_recover_58 : decode b_D_recover 58 = .ok (.invokevirtual 151, 3) := by decide +kernel
theorem d_D_recover_61 : decode b_D_recover 61 = .ok (.aload_n 0, 1) := by decide +kernel
theorem d_D_recover_62 : decode b_D_recover 62 = .ok (.getfield 48, 3) := by decide +kernel
theorem d_D_recover_65 : decode b_D_recover 65 = .ok (.getfield 90, 3) := by decide +kernel
theorem d_D_recover_68 : decode b_D_recover 68 = .ok (.iconst 0, 1) := by decide +kernel
theorem d_D_recover_69 : decode b_D_recover 69 = .ok (.aload_n 0, 1) := by decide +kernel
theorem d_D_recover_70 : decode b_D_recover 70 = .ok (.getfield 34, 3) := by decide +kernel
theorem d_D_recover_73 : decode b_D_recover 73 = .ok (.iconst 0, 1) := by decide +kernel
theorem d_D_recover_74 : decode b_D_recover 74 = .ok (.bipush 24, 2) := by decide +kernel
theorem d_D_recover_76 : decode b_D_recover 76 = .ok (.invokestatic 154, 3) := by decide +kernel
theorem d_D_recover_79 : decode b_D_recover 79 = .ok (.aload_n 0, 1) := by decide +kernel
theorem d_D_recover_80 : decode b_D_recover 80 = .ok (.getfield 48, 3) := by decide +kernel
theorem d_D_recover_83 : decode b_D_recover 83 = .ok (.getfield 160, 3) := by decide +kernel
theorem d_D_recover_86 : decode b_D_recover 86 = .ok (.ireturn, 1) := by decide +kernel
theorem d_P_limitPower_0 : decode b_P_limitPower 0 = .ok (.aload_n 0, 1) := by decide +kernel
theorem d_P_limitPower_1 : decode b_P_limitPower 1 = .ok (.iload_n 1, 1) := by decide +kernel
theorem d_P_limitPower_2 : decode b_P_limitPower 2 = .ok (.putfield 15, 3) := by decide +kernel
theorem d_P_limitPower_5 : decode b_P_limitPower 5 = .ok (.aload_n 0, 1) := by decide +kernel
theorem d_P_limitPower_6 : decode b_P_limitPower 6 = .ok (.iload_n 1, 1) := by decide +kernel
theorem d_P_limitPower_7 : decode b_P_limitPower 7 = .ok (.ifCond .ne 7, 3) := by decide +kernel
theorem d_P_limitPower_10 : decode b_P_limitPower 10 = .ok (.iconst 1, 1) := by decide +kernel
theorem d_P_limitPower_11 : decode b_P_limitPower 11 = .ok (.goto 4, 3) := by decide +kernel
theorem d_P_limitPower_14 : decode b_P_limitPower 14 = .ok (.iconst 0, 1) := by decide +kernel
theorem d_P_limitPower_15 : decode b_P_limitPower 15 = .ok (.putfield 19, 3) := by decide +kernel
theorem d_P_limitPower_18 : decode b_P_limitPower 18 = .ok (.return_, 1) := by decide +kernel
theorem d_M_load_0 : decode b_M_load 0 = .ok (.iload_n 2, 1) := by decide +kernel
theorem d_M_load_1 : decode b_M_load 1 = .ok (.sipush 4096, 3) := by decide +kernel
theorem d_M_load_4 : decode b_M_load 4 = .ok (.imul, 1) := by decide +kernel
theorem d_M_load_5 : decode b_M_load 5 = .ok (.istore_n 3, 1) := by decide +kernel
theorem d_M_load_6 : decode b_M_load 6 = .ok (.aload_n 0, 1) := by decide +kernel
theorem d_M_load_7 : decode b_M_load 7 = .ok (.invokevirtual 37, 3) := by decide +kernel
theorem d_M_load_10 : decode b_M_load 10 = .ok (.aload_n 0, 1) := by decide +kernel
theorem d_M_load_11 : decode b_M_load 11 = .ok (.aload_n 1, 1) := by decide +kernel
theorem d_M_load_12 : decode b_M_load 12 = .ok (.iload_n 3, 1) := by decide +kernel
theorem d_M_load_13 : decode b_M_load 13 = .ok (.iconst 0, 1) := by decide +kernel
theorem d_M_load_14 : decode b_M_load 14 = .ok (.iadd, 1) := by decide +kernel
theorem d_M_load_15 : decode b_M_load 15 = .ok (.invokevirtual 58, 3) := by decide +kernel
theorem d_M_load_18 : decode b_M_load 18 = .ok (.putfield 28, 3) := by decide +kernel
theorem d_M_load_21 : decode b_M_load 21 = .ok (.iconst 0, 1) := by decide +kernel
theorem d_M_load_22 : decode b_M_load 22 = .ok (.istore 4, 2) := by decide +kernel
theorem d_M_load_24 : decode b_M_load 24 = .ok (.iload 4, 2) := by decide +kernel
theorem d_M_load_26 : decode b_M_load 26 = .ok (.bipush 24, 2) := by decide +kernel
theorem d_M_load_28 : decode b_M_load 28 = .ok (.if_icmp .ge 29, 3) := by decide +kernel
theorem d_M_load_31 : decode b_M_load 31 = .ok (.aload_n 0, 1) := by decide +kernel
theorem d_M_load_32 : decode b_M_load 32 = .ok (.getfield 21, 3) := by decide +kernel
theorem d_M_load_35 : decode b_M_load 35 = .ok (.iload 4, 2) := by decide +kernel
theorem d_M_load_37 : decode b_M_load 37 = .ok (.aload_n 1, 1) := by decide +kernel
theorem d_M_load_38 : decode b_M_load 38 = .ok (.iload_n 3, 1) := by decide +kernel
theorem d_M_load_39 : decode b_M_load 39 = .ok (.bipush 8, 2) := by decide +kernel
theorem d_M_load_41 : decode b_M_load 41 = .ok (.iadd, 1) := by decide +kernel
theorem d_M_load_42 : decode b_M_load 42 = .ok (.iconst 4, 1) := by decide +kernel
theorem d_M_load_43 : decode b_M_load 43 = .ok (.iload 4, 2) := by decide +kernel
theorem d_M_load_45 : decode b_M_load 45 = .ok (.imul, 1) := by decide +kernel
theorem d_M_load_46 : decode b_M_load 46 = .ok (.iadd, 1) := by decide +kernel
theorem d_M_load_47 : decode b_M_load 47 = .ok (.invokevirtual 58, 3) := by decide +kernel
theorem d_M_load_50 : decode b_M_load 50 = .ok (.iastore, 1) := by decide +kernel
theorem d_M_load_51 : decode b_M_load 51 = .ok (.iinc 4 1, 3) := by decide +kernel
theorem d_M_load_54 : decode b_M_load 54 = .ok (.goto (-30), 3) := by decide +kernel
theorem d_M_load_57 : decode b_M_load 57 = .ok (.sipush 200, 3) := by decide +kernel
theorem d_M_load_60 : decode b_M_load 60 = .ok (.aload_n 1, 1) := by decide +kernel
theorem d_M_load_61 : decode b_M_load 61 = .ok (.iload_n 3, 1) := by decide +kernel
theorem d_M_load_62 : decode b_M_load 62 = .ok (.iconst 4, 1) := by decide +kernel
theorem d_M_load_63 : decode b_M_load 63 = .ok (.iadd, 1) := by decide +kernel
theorem d_M_load_64 : decode b_M_load 64 = .ok (.invokevirtual 58, 3) := by decide +kernel
theorem d_M_load_67 : decode b_M_load 67 = .ok (.invokestatic 63, 3) := by decide +kernel
theorem d_M_load_70 : decode b_M_load 70 = .ok (.istore 4, 2) := by decide +kernel
theorem d_M_load_72 : decode b_M_load 72 = .ok (.iconst 0, 1) := by decide +kernel
theorem d_M_load_73 : decode b_M_load 73 = .ok (.istore 5, 2) := by decide +kernel
theorem d_M_load_75 : decode b_M_load 75 = .ok (.iload 5, 2) := by decide +kernel
theorem d_M_load_77 : decode b_M_load 77 = .ok (.iload 4, 2) := by decide +kernel
theorem d_M_load_79 : decode b_M_load 79 = .ok (.if_icmp .ge 49, 3) := by decide +kernel
theorem d_M_load_82 : decode b_M_load 82 = .ok (.iload_n 3, 1) := by decide +kernel
theorem d_M_load_83 : decode b_M_load 83 = .ok (.bipush 104, 2) := by decide +kernel
theorem d_M_load_85 : decode b_M_load 85 = .ok (.iadd, 1) := by decide +kernel
theorem d_M_load_86 : decode b_M_load 86 = .ok (.bipush 12, 2) := by decide +kernel
theorem d_M_load_88 : decode b_M_load 88 = .ok (.iload 5, 2) := by decide +kernel
theorem d_M_load_90 : decode b_M_load 90 = .ok (.imul, 1) := by decide +kernel
theorem d_M_load_91 : decode b_M_load 91 = .ok (.iadd, 1) := by decide +kernel
theorem d_M_load_92 : decode b_M_load 92 = .ok (.istore 6, 2) := by decide +kernel
theorem d_M_load_94 : decode b_M_load 94 = .ok (.aload_n 0, 1) := by decide +kernel
theorem d_M_load_95 : decode b_M_load 95 = .ok (.aload_n 1, 1) := by decide +kernel
theorem d_M_load_96 : decode b_M_load 96 = .ok (.iload 6, 2) := by decide +kernel
theorem d_M_load_98 : decode b_M_load 98 = .ok (.invokevirtual 58, 3) := by decide +kernel
theorem d_M_load_101 : decode b_M_load 101 = .ok (.aload_n 1, 1) := by decide +kernel
theorem d_M_load_102 : decode b_M_load 102 = .ok (.iload 6, 2) := by decide +kernel
theorem d_M_load_104 : decode b_M_load 104 = .ok (.iconst 4, 1) := by decide +kernel
theorem d_M_load_105 : decode b_M_load 105 = .ok (.iadd, 1) := by decide +kernel
theorem d_M_load_106 : decode b_M_load 106 = .ok (.invokevirtual 58, 3) := by decide +kernel
theorem d_M_load_109 : decode b_M_load 109 = .ok (.aload_n 1, 1) := by decide +kernel
theorem d_M_load_110 : decode b_M_load 110 = .ok (.iload 6, 2) := by decide +kernel
theorem d_M_load_112 : decode b_M_load 112 = .ok (.bipush 8, 2) := by decide +kernel
theorem d_M_load_114 : decode b_M_load 114 = .ok (.iadd, 1) := by decide +kernel
theorem d_M_load_115 : decode b_M_load 115 = .ok (.invokevirtual 58, 3) := by decide +kernel
theorem d_M_load_118 : decode b_M_load 118 = .ok (.invokevirtual 40, 3) := by decide +kernel
theorem d_M_load_121 : decode b_M_load 121 = .ok (.pop, 1) := by decide +kernel
theorem d_M_load_122 : decode b_M_load 122 = .ok (.iinc 5 1, 3) := by decide +kernel
theorem d_M_load_125 : decode b_M_load 125 = .ok (.goto (-50), 3) := by decide +kernel
theorem d_M_load_128 : decode b_M_load 128 = .ok (.return_, 1) := by decide +kernel
theorem d_M_clear_0 : decode b_M_clear 0 = .ok (.aload_n 0, 1) := by decide +kernel
theorem d_M_clear_1 : decode b_M_clear 1 = .ok (.iconst 0, 1) := by decide +kernel
theorem d_M_clear_2 : decode b_M_clear 2 = .ok (.putfield 24, 3) := by decide +kernel
theorem d_M_clear_5 : decode b_M_clear 5 = .ok (.aload_n 0, 1) := by decide +kernel
theorem d_M_clear_6 : decode b_M_clear 6 = .ok (.iconst 0, 1) := by decide +kernel
theorem d_M_clear_7 : decode b_M_clear 7 = .ok (.putfield 28, 3) := by decide +kernel
theorem d_M_clear_10 : decode b_M_clear 10 = .ok (.aload_n 0, 1) := by decide +kernel
theorem d_M_clear_11 : decode b_M_clear 11 = .ok (.getfield 21, 3) := by decide +kernel
theorem d_M_clear_14 : decode b_M_clear 14 = .ok (.iconst 0, 1) := by decide +kernel
theorem d_M_clear_15 : decode b_M_clear 15 = .ok (.invokestatic 31, 3) := by decide +kernel
theorem d_M_clear_18 : decode b_M_clear 18 = .ok (.return_, 1) := by decide +kernel
theorem d_A_fill_0 : decode b_A_fill 0 = .ok (.iconst 0, 1) := by decide +kernel
theorem d_A_fill_1 : decode b_A_fill 1 = .ok (.istore_n 2, 1) := by decide +kernel
theorem d_A_fill_2 : decode b_A_fill 2 = .ok (.aload_n 0, 1) := by decide +kernel
theorem d_A_fill_3 : decode b_A_fill 3 = .ok (.arraylength, 1) := by decide +kernel
theorem d_A_fill_4 : decode b_A_fill 4 = .ok (.istore_n 3, 1) := by decide +kernel
theorem d_A_fill_5 : decode b_A_fill 5 = .ok (.iload_n 2, 1) := by decide +kernel
theorem d_A_fill_6 : decode b_A_fill 6 = .ok (.iload_n 3, 1) := by decide +kernel
theorem d_A_fill_7 : decode b_A_fill 7 = .ok (.if_icmp .ge 13, 3) := by decide +kernel
theorem d_A_fill_10 : decode b_A_fill 10 = .ok (.aload_n 0, 1) := by decide +kernel
theorem d_A_fill_11 : decode b_A_fill 11 = .ok (.iload_n 2, 1) := by decide +kernel
theorem d_A_fill_12 : decode b_A_fill 12 = .ok (.iload_n 1, 1) := by decide +kernel
theorem d_A_fill_13 : decode b_A_fill 13 = .ok (.iastore, 1) := by decide +kernel
theorem d_A_fill_14 : decode b_A_fill 14 = .ok (.iinc 2 1, 3) := by decide +kernel
theorem d_A_fill_17 : decode b_A_fill 17 = .ok (.goto (-12), 3) := by decide +kernel
theorem d_A_fill_20 : decode b_A_fill 20 = .ok (.return_, 1) := by decide +kernel
theorem d_P_readInt_0 : decode b_P_readInt 0 = .ok (.aload_n 0, 1) := by decide +kernel
theorem d_P_readInt_1 : decode b_P_readInt 1 = .ok (.iload_n 1, 1) := by decide +kernel
theorem d_P_readInt_2 : decode b_P_readInt 2 = .ok (.invokevirtual 36, 3) := by decide +kernel
theorem d_P_readInt_5 : decode b_P_readInt 5 = .ok (.bipush 24, 2) := by decide +kernel
theorem d_P_readInt_7 : decode b_P_readInt 7 = .ok (.ishl, 1) := by decide +kernel
theorem d_P_readInt_8 : decode b_P_readInt 8 = .ok (.aload_n 0, 1) := by decide +kernel
theorem d_P_readInt_9 : decode b_P_readInt 9 = .ok (.iload_n 1, 1) := by decide +kernel
theorem d_P_readInt_10 : decode b_P_readInt 10 = .ok (.iconst 1, 1) := by decide +kernel
theorem d_P_readInt_11 : decode b_P_readInt 11 = .ok (.iadd, 1) := by decide +kernel
theorem d_P_readInt_12 : decode b_P_readInt 12 = .ok (.invokevirtual 36, 3) := by decide +kernel
theorem d_P_readInt_15 : decode b_P_readInt 15 = .ok (.bipush 16, 2) := by decide +kernel
theorem d_P_readInt_17 : decode b_P_readInt 17 = .ok (.ishl, 1) := by decide +kernel
theorem d_P_readInt_18 : decode b_P_readInt 18 = .ok (.ior, 1) := by decide +kernel
theorem d_P_readInt_19 : decode b_P_readInt 19 = .ok (.aload_n 0, 1) := by decide +kernel
theorem d_P_readInt_20 : decode b_P_readInt 20 = .ok (.iload_n 1, 1) := by decide +kernel
theorem d_P_readInt_21 : decode b_P_readInt 21 = .ok (.iconst 2, 1) := by decide +kernel
theorem d_P_readInt_22 : decode b_P_readInt 22 = .ok (.iadd, 1) := by decide +kernel
theorem d_P_readInt_23 : decode b_P_readInt 23 = .ok (.invokevirtual 36, 3) := by decide +kernel
theorem d_P_readInt_26 : decode b_P_readInt 26 = .ok (.bipush 8, 2) := by decide +kernel
theorem d_P_readInt_28 : decode b_P_readInt 28 = .ok (.ishl, 1) := by decide +kernel
theorem d_P_readInt_29 : decode b_P_readInt 29 = .ok (.ior, 1) := by decide +kernel
theorem d_P_readInt_30 : decode b_P_readInt 30 = .ok (.aload_n 0, 1) := by decide +kernel
theorem d_P_readInt_31 : decode b_P_readInt 31 = .ok (.iload_n 1, 1) := by decide +kernel
theorem d_P_readInt_32 : decode b_P_readInt 32 = .ok (.iconst 3, 1) := by decide +kernel
theorem d_P_readInt_33 : decode b_P_readInt 33 = .ok (.iadd, 1) := by decide +kernel
theorem d_P_readInt_34 : decode b_P_readInt 34 = .ok (.invokevirtual 36, 3) := by decide +kernel
theorem d_P_readInt_37 : decode b_P_readInt 37 = .ok (.ior, 1) := by decide +kernel
theorem d_P_readInt_38 : decode b_P_readInt 38 = .ok (.ireturn, 1) := by decide +kernel
theorem d_P_read_0 : decode b_P_read 0 = .ok (.iload_n 1, 1) := by decide +kernel
theorem d_P_read_1 : decode b_P_read 1 = .ok (.ifCond .lt 25, 3) := by decide +kernel
theorem d_P_read_4 : decode b_P_read 4 = .ok (.iload_n 1, 1) := by decide +kernel
theorem d_P_read_5 : decode b_P_read 5 = .ok (.aload_n 0, 1) := by decide +kernel
theorem d_P_read_6 : decode b_P_read 6 = .ok (.getfield 9, 3) := by decide +kernel
theorem d_P_read_9 : decode b_P_read 9 = .ok (.arraylength, 1) := by decide +kernel
theorem d_P_read_10 : decode b_P_read 10 = .ok (.if_icmp .ge 16, 3) := by decide +kernel
theorem d_P_read_13 : decode b_P_read 13 = .ok (.aload_n 0, 1) := by decide +kernel
theorem d_P_read_14 : decode b_P_read 14 = .ok (.getfield 9, 3) := by decide +kernel
theorem d_P_read_17 : decode b_P_read 17 = .ok (.iload_n 1, 1) := by decide +kernel
theorem d_P_read_18 : decode b_P_read 18 = .ok (.baload, 1) := by decide +kernel
theorem d_P_read_19 : decode b_P_read 19 = .ok (.sipush 255, 3) := by decide +kernel
theorem d_P_read_22 : decode b_P_read 22 = .ok (.iand, 1) := by decide +kernel
theorem d_P_read_23 : decode b_P_read 23 = .ok (.goto 4, 3) := by decide +kernel
theorem d_P_read_26 : decode b_P_read 26 = .ok (.iconst 0, 1) := by decide +kernel
theorem d_P_read_27 : decode b_P_read 27 = .ok (.ireturn, 1) := by decide +kernel
theorem d_M_add_0 : decode b_M_add 0 = .ok (.aload_n 0, 1) := by decide +kernel
theorem d_M_add_1 : decode b_M_add 1 = .ok (.getfield 24, 3) := by decide +kernel
theorem d_M_add_4 : decode b_M_add 4 = .ok (.ifCond .lt 13, 3) := by decide +kernel
theorem d_M_add_7 : decode b_M_add 7 = .ok (.aload_n 0, 1) := by decide +kernel
theorem d_M_add_8 : decode b_M_add 8 = .ok (.getfield 24, 3) := by decide +kernel
theorem d_M_add_11 : decode b_M_add 11 = .ok (.sipush 200, 3) := by decide +kernel
theorem d_M_add_14 : decode b_M_add 14 = .ok (.if_icmp .lt 5, 3) := by decide +kernel
theorem d_M_add_17 : decode b_M_add 17 = .ok (.iconst 0, 1) := by decide +kernel
theorem d_M_add_18 : decode b_M_add 18 = .ok (.ireturn, 1) := by decide +kernel
theorem d_M_add_19 : decode b_M_add 19 = .ok (.aload_n 0, 1) := by decide +kernel
theorem d_M_add_20 : decode b_M_add 20 = .ok (.getfield 11, 3) := by decide +kernel
theorem d_M_add_23 : decode b_M_add 23 = .ok (.aload_n 0, 1) := by decide +kernel
theorem d_M_add_24 : decode b_M_add 24 = .ok (.getfield 24, 3) := by decide +kernel
theorem d_M_add_27 : decode b_M_add 27 = .ok (.iload_n 1, 1) := by decide +kernel
theorem d_M_add_28 : decode b_M_add 28 = .ok (.iastore, 1) := by decide +kernel
theorem d_M_add_29 : decode b_M_add 29 = .ok (.aload_n 0, 1) := by decide +kernel
theorem d_M_add_30 : decode b_M_add 30 = .ok (.getfield 15, 3) := by decide +kernel
theorem d_M_add_33 : decode b_M_add 33 = .ok (.aload_n 0, 1) := by decide +kernel
theorem d_M_add_34 : decode b_M_add 34 = .ok (.getfield 24, 3) := by decide +kernel
theorem d_M_add_37 : decode b_M_add 37 = .ok (.iload_n 2, 1) := by decide +kernel
theorem d_M_add_38 : decode b_M_add 38 = .ok (.iastore, 1) := by decide +kernel
theorem d_M_add_39 : decode b_M_add 39 = .ok (.aload_n 0, 1) := by decide +kernel
theorem d_M_add_40 : decode b_M_add 40 = .ok (.getfield 18, 3) := by decide +kernel
theorem d_M_add_43 : decode b_M_add 43 = .ok (.aload_n 0, 1) := by decide +kernel
theorem d_M_add_44 : decode b_M_add 44 = .ok (.getfield 24, 3) := by decide +kernel
theorem d_M_add_47 : decode b_M_add 47 = .ok (.iload_n 3, 1) := by decide +kernel
theorem d_M_add_48 : decode b_M_add 48 = .ok (.iastore, 1) := by decide +kernel
theorem d_M_add_49 : decode b_M_add 49 = .ok (.aload_n 0, 1) := by decide +kernel
theorem d_M_add_50 : decode b_M_add 50 = .ok (.dup, 1) := by decide +kernel
theorem d_M_add_51 : decode b_M_add 51 = .ok (.getfield 24, 3) := by decide +kernel
theorem d_M_add_54 : decode b_M_add 54 = .ok (.iconst 1, 1) := by decide +kernel
theorem d_M_add_55 : decode b_M_add 55 = .ok (.iadd, 1) := by decide +kernel
theorem d_M_add_56 : decode b_M_add 56 = .ok (.putfield 24, 3) := by decide +kernel
theorem d_M_add_59 : decode b_M_add 59 = .ok (.iconst 1, 1) := by decide +kernel
theorem d_M_add_60 : decode b_M_add 60 = .ok (.ireturn, 1) := by decide +kernel
theorem d_D_makeNextCount_0 : decode b_D_makeNextCount 0 = .ok (.aload_n 0, 1) := by decide +kernel
theorem d_D_makeNextCount_1 : decode b_D_makeNextCount 1 = .ok (.getfield 48, 3) := by decide +kernel
theorem d_D_makeNextCount_4 : decode b_D_makeNextCount 4 = .ok (.astore_n 1, 1) := by decide +kernel
theorem d_D_makeNextCount_5 : decode b_D_makeNextCount 5 = .ok (.aload_n 0, 1) := by decide +kernel
theorem d_D_makeNextCount_6 : decode b_D_makeNextCount 6 = .ok (.aload_n 0, 1) := by decide +kernel
theorem d_D_makeNextCount_7 : decode b_D_makeNextCount 7 = .ok (.getfield 52, 3) := by decide +kernel
theorem d_D_makeNextCount_10 : decode b_D_makeNextCount 10 = .ok (.putfield 48, 3) := by decide +kernel
theorem d_D_makeNextCount_13 : decode b_D_makeNextCount 13 = .ok (.aload_n 0, 1) := by decide +kernel
theorem d_D_makeNextCount_14 : decode b_D_makeNextCount 14 = .ok (.aload_n 1, 1) := by decide +kernel
theorem d_D_makeNextCount_15 : decode b_D_makeNextCount 15 = .ok (.putfield 52, 3) := by decide +kernel
theorem d_D_makeNextCount_18 : decode b_D_makeNextCount 18 = .ok (.return_, 1) := by decide +kernel
theorem d_D_isDown_0 : decode b_D_isDown 0 = .ok (.aload_n 0, 1) := by decide +kernel
theorem d_D_isDown_1 : decode b_D_isDown 1 = .ok (.getfield 23, 3) := by decide +kernel
theorem d_D_isDown_4 : decode b_D_isDown 4 = .ok (.getfield 62, 3) := by decide +kernel
theorem d_D_isDown_7 : decode b_D_isDown 7 = .ok (.ireturn, 1) := by decide +kernel
theorem d_D_writes_0 : decode b_D_writes 0 = .ok (.aload_n 0, 1) := by decide +kernel
theorem d_D_writes_1 : decode b_D_writes 1 = .ok (.getfield 23, 3) := by decide +kernel
theorem d_D_writes_4 : decode b_D_writes 4 = .ok (.getfield 163, 3) := by decide +kernel
theorem d_D_writes_7 : decode b_D_writes 7 = .ok (.ireturn, 1) := by decide +kernel
theorem d_L_cell_0 : decode b_L_cell 0 = .ok (.iload_n 1, 1) := by decide +kernel
theorem d_L_cell_1 : decode b_L_cell 1 = .ok (.aload_n 0, 1) := by decide +kernel
theorem d_L_cell_2 : decode b_L_cell 2 = .ok (.arraylength, 1) := by decide +kernel
theorem d_L_cell_3 : decode b_L_cell 3 = .ok (.if_icmp .ge 9, 3) := by decide +kernel
theorem d_L_cell_6 : decode b_L_cell 6 = .ok (.aload_n 0, 1) := by decide +kernel
theorem d_L_cell_7 : decode b_L_cell 7 = .ok (.iload_n 1, 1) := by decide +kernel
theorem d_L_cell_8 : decode b_L_cell 8 = .ok (.iaload, 1) := by decide +kernel
theorem d_L_cell_9 : decode b_L_cell 9 = .ok (.goto 4, 3) := by decide +kernel
theorem d_L_cell_12 : decode b_L_cell 12 = .ok (.iconst 0, 1) := by decide +kernel
theorem d_L_cell_13 : decode b_L_cell 13 = .ok (.ireturn, 1) := by decide +kernel
theorem d_L_put_0 : decode b_L_put 0 = .ok (.aload 4, 2) := by decide +kernel
theorem d_L_put_2 : decode b_L_put 2 = .ok (.iconst 0, 1) := by decide +kernel
theorem d_L_put_3 : decode b_L_put 3 = .ok (.aload_n 0, 1) := by decide +kernel
theorem d_L_put_4 : decode b_L_put 4 = .ok (.lload_n 1, 1) := by decide +kernel
theorem d_L_put_5 : decode b_L_put 5 = .ok (.iload_n 3, 1) := by decide +kernel
theorem d_L_put_6 : decode b_L_put 6 = .ok (.invokevirtual 7, 3) := by decide +kernel
theorem d_L_put_9 : decode b_L_put 9 = .ok (.i2l, 1) := by decide +kernel
theorem d_L_put_10 : decode b_L_put 10 = .ok (.lastore, 1) := by decide +kernel
theorem d_L_put_11 : decode b_L_put 11 = .ok (.goto 11, 3) := by decide +kernel
theorem d_L_put_14 : decode b_L_put 14 = .ok (.astore 5, 2) := by decide +kernel
theorem d_L_put_16 : decode b_L_put 16 = .ok (.iconst 1, 1) := by decide +kernel
theorem d_L_put_17 : decode b_L_put 17 = .ok (.ireturn, 1) := by decide +kernel
theorem d_L_put_18 : decode b_L_put 18 = .ok (.astore 5, 2) := by decide +kernel
theorem d_L_put_20 : decode b_L_put 20 = .ok (.iconst 2, 1) := by decide +kernel
theorem d_L_put_21 : decode b_L_put 21 = .ok (.ireturn, 1) := by decide +kernel
theorem d_L_put_22 : decode b_L_put 22 = .ok (.iconst 0, 1) := by decide +kernel
theorem d_L_put_23 : decode b_L_put 23 = .ok (.ireturn, 1) := by decide +kernel
theorem d_D_put_0 : decode b_D_put 0 = .ok (.iload_n 3, 1) := by decide +kernel
theorem d_D_put_1 : decode b_D_put 1 = .ok (.iconst 1, 1) := by decide +kernel
theorem d_D_put_2 : decode b_D_put 2 = .ok (.if_icmp .lt 9, 3) := by decide +kernel
theorem d_D_put_5 : decode b_D_put 5 = .ok (.iload_n 3, 1) := by decide +kernel
theorem d_D_put_6 : decode b_D_put 6 = .ok (.bipush 8, 2) := by decide +kernel
theorem d_D_put_8 : decode b_D_put 8 = .ok (.if_icmp .le 13, 3) := by decide +kernel
theorem d_D_put_11 : decode b_D_put 11 = .ok (.new 55, 3) := by decide +kernel
theorem d_D_put_14 : decode b_D_put 14 = .ok (.dup, 1) := by decide +kernel
theorem d_D_put_15 : decode b_D_put 15 = .ok (.ldc 57, 2) := by decide +kernel
theorem d_D_put_17 : decode b_D_put 17 = .ok (.invokespecial 59, 3) := by decide +kernel
theorem d_D_put_20 : decode b_D_put 20 = .ok (.athrow, 1) := by decide +kernel
theorem d_D_put_21 : decode b_D_put 21 = .ok (.aload_n 0, 1) := by decide +kernel
theorem d_D_put_22 : decode b_D_put 22 = .ok (.getfield 23, 3) := by decide +kernel
theorem d_D_put_25 : decode b_D_put 25 = .ok (.getfield 62, 3) := by decide +kernel
theorem d_D_put_28 : decode b_D_put 28 = .ok (.ifCond .ne 14, 3) := by decide +kernel
theorem d_D_put_31 : decode b_D_put 31 = .ok (.aload_n 0, 1) := by decide +kernel
theorem d_D_put_32 : decode b_D_put 32 = .ok (.getfield 30, 3) := by decide +kernel
theorem d_D_put_35 : decode b_D_put 35 = .ok (.iload_n 3, 1) := by decide +kernel
theorem d_D_put_36 : decode b_D_put 36 = .ok (.invokevirtual 66, 3) := by decide +kernel
theorem d_D_put_39 : decode b_D_put 39 = .ok (.ifCond .ne 13, 3) := by decide +kernel
theorem d_D_put_42 : decode b_D_put 42 = .ok (.new 70, 3) := by decide +kernel
theorem d_D_put_45 : decode b_D_put 45 = .ok (.dup, 1) := by decide +kernel
theorem d_D_put_46 : decode b_D_put 46 = .ok (.ldc 72, 2) := by decide +kernel
theorem d_D_put_48 : decode b_D_put 48 = .ok (.invokespecial 74, 3) := by decide +kernel
theorem d_D_put_51 : decode b_D_put 51 = .ok (.athrow, 1) := by decide +kernel
theorem d_D_put_52 : decode b_D_put 52 = .ok (.iload_n 3, 1) := by decide +kernel
theorem d_D_put_53 : decode b_D_put 53 = .ok (.iconst 1, 1) := by decide +kernel
theorem d_D_put_54 : decode b_D_put 54 = .ok (.isub, 1) := by decide +kernel
theorem d_D_put_55 : decode b_D_put 55 = .ok (.istore 4, 2) := by decide +kernel
theorem d_D_put_57 : decode b_D_put 57 = .ok (.iload 4, 2) := by decide +kernel
theorem d_D_put_59 : decode b_D_put 59 = .ok (.ifCond .lt 25, 3) := by decide +kernel
theorem d_D_put_62 : decode b_D_put 62 = .ok (.aload_n 0, 1) := by decide +kernel
theorem d_D_put_63 : decode b_D_put 63 = .ok (.getfield 30, 3) := by decide +kernel
theorem d_D_put_66 : decode b_D_put 66 = .ok (.lload_n 1, 1) := by decide +kernel
theorem d_D_put_67 : decode b_D_put 67 = .ok (.bipush 8, 2) := by decide +kernel
theorem d_D_put_69 : decode b_D_put 69 = .ok (.iload 4, 2) := by decide +kernel
theorem d_D_put_71 : decode b_D_put 71 = .ok (.imul, 1) := by decide +kernel
theorem d_D_put_72 : decode b_D_put 72 = .ok (.lushr, 1) := by decide +kernel
theorem d_D_put_73 : decode b_D_put 73 = .ok (.l2i, 1) := by decide +kernel
theorem d_D_put_74 : decode b_D_put 74 = .ok (.i2b, 1) := by decide +kernel
theorem d_D_put_75 : decode b_D_put 75 = .ok (.invokevirtual 75, 3) := by decide +kernel
theorem d_D_put_78 : decode b_D_put 78 = .ok (.iinc 4 (-1), 3) := by decide +kernel
theorem d_D_put_81 : decode b_D_put 81 = .ok (.goto (-24), 3) := by decide +kernel
theorem d_D_put_84 : decode b_D_put 84 = .ok (.aload_n 0, 1) := by decide +kernel
theorem d_D_put_85 : decode b_D_put 85 = .ok (.getfield 30, 3) := by decide +kernel
theorem d_D_put_88 : decode b_D_put 88 = .ok (.getfield 79, 3) := by decide +kernel
theorem d_D_put_91 : decode b_D_put 91 = .ok (.ireturn, 1) := by decide +kernel
theorem d_Tp_hasRoomFor_0 : decode b_Tp_hasRoomFor 0 = .ok (.iload_n 1, 1) := by decide +kernel
theorem d_Tp_hasRoomFor_1 : decode b_Tp_hasRoomFor 1 = .ok (.aload_n 0, 1) := by decide +kernel
theorem d_Tp_hasRoomFor_2 : decode b_Tp_hasRoomFor 2 = .ok (.getfield 9, 3) := by decide +kernel
theorem d_Tp_hasRoomFor_5 : decode b_Tp_hasRoomFor 5 = .ok (.arraylength, 1) := by decide +kernel
theorem d_Tp_hasRoomFor_6 : decode b_Tp_hasRoomFor 6 = .ok (.aload_n 0, 1) := by decide +kernel
theorem d_Tp_hasRoomFor_7 : decode b_Tp_hasRoomFor 7 = .ok (.getfield 15, 3) := by decide +kernel
theorem d_Tp_hasRoomFor_10 : decode b_Tp_hasRoomFor 10 = .ok (.isub, 1) := by decide +kernel
theorem d_Tp_hasRoomFor_11 : decode b_Tp_hasRoomFor 11 = .ok (.if_icmp .gt 7, 3) := by decide +kernel
theorem d_Tp_hasRoomFor_14 : decode b_Tp_hasRoomFor 14 = .ok (.iconst 1, 1) := by decide +kernel
theorem d_Tp_hasRoomFor_15 : decode b_Tp_hasRoomFor 15 = .ok (.goto 4, 3) := by decide +kernel
theorem d_Tp_hasRoomFor_18 : decode b_Tp_hasRoomFor 18 = .ok (.iconst 0, 1) := by decide +kernel
theorem d_Tp_hasRoomFor_19 : decode b_Tp_hasRoomFor 19 = .ok (.ireturn, 1) := by decide +kernel
theorem d_Tp_append_0 : decode b_Tp_append 0 = .ok (.aload_n 0, 1) := by decide +kernel
theorem d_Tp_append_1 : decode b_Tp_append 1 = .ok (.getfield 15, 3) := by decide +kernel
theorem d_Tp_append_4 : decode b_Tp_append 4 = .ok (.ifCond .lt 35, 3) := by decide +kernel
theorem d_Tp_append_7 : decode b_Tp_append 7 = .ok (.aload_n 0, 1) := by decide +kernel
theorem d_Tp_append_8 : decode b_Tp_append 8 = .ok (.getfield 15, 3) := by decide +kernel
theorem d_Tp_append_11 : decode b_Tp_append 11 = .ok (.aload_n 0, 1) := by decide +kernel
theorem d_Tp_append_12 : decode b_Tp_append 12 = .ok (.getfield 9, 3) := by decide +kernel
theorem d_Tp_append_15 : decode b_Tp_append 15 = .ok (.arraylength, 1) := by decide +kernel
theorem d_Tp_append_16 : decode b_Tp_append 16 = .ok (.if_icmp .ge 23, 3) := by decide +kernel
theorem d_Tp_append_19 : decode b_Tp_append 19 = .ok (.aload_n 0, 1) := by decide +kernel
theorem d_Tp_append_20 : decode b_Tp_append 20 = .ok (.getfield 9, 3) := by decide +kernel
theorem d_Tp_append_23 : decode b_Tp_append 23 = .ok (.aload_n 0, 1) := by decide +kernel
theorem d_Tp_append_24 : decode b_Tp_append 24 = .ok (.getfield 15, 3) := by decide +kernel
theorem d_Tp_append_27 : decode b_Tp_append 27 = .ok (.iload_n 1, 1) := by decide +kernel
theorem d_Tp_append_28 : decode b_Tp_append 28 = .ok (.bastore, 1) := by decide +kernel
theorem d_Tp_append_29 : decode b_Tp_append 29 = .ok (.aload_n 0, 1) := by decide +kernel
theorem d_Tp_append_30 : decode b_Tp_append 30 = .ok (.dup, 1) := by decide +kernel
theorem d_Tp_append_31 : decode b_Tp_append 31 = .ok (.getfield 15, 3) := by decide +kernel
theorem d_Tp_append_34 : decode b_Tp_append 34 = .ok (.iconst 1, 1) := by decide +kernel
theorem d_Tp_append_35 : decode b_Tp_append 35 = .ok (.iadd, 1) := by decide +kernel
theorem d_Tp_append_36 : decode b_Tp_append 36 = .ok (.putfield 15, 3) := by decide +kernel
theorem d_Tp_append_39 : decode b_Tp_append 39 = .ok (.return_, 1) := by decide +kernel
theorem d_L_fill_0 : decode b_L_fill 0 = .ok (.aload_n 3, 1) := by decide +kernel
theorem d_L_fill_1 : decode b_L_fill 1 = .ok (.iconst 0, 1) := by decide +kernel
theorem d_L_fill_2 : decode b_L_fill 2 = .ok (.aload_n 0, 1) := by decide +kernel
theorem d_L_fill_3 : decode b_L_fill 3 = .ok (.iload_n 1, 1) := by decide +kernel
theorem d_L_fill_4 : decode b_L_fill 4 = .ok (.iload_n 2, 1) := by decide +kernel
theorem d_L_fill_5 : decode b_L_fill 5 = .ok (.invokevirtual 17, 3) := by decide +kernel
theorem d_L_fill_8 : decode b_L_fill 8 = .ok (.i2l, 1) := by decide +kernel
theorem d_L_fill_9 : decode b_L_fill 9 = .ok (.lastore, 1) := by decide +kernel
theorem d_L_fill_10 : decode b_L_fill 10 = .ok (.goto 11, 3) := by decide +kernel
theorem d_L_fill_13 : decode b_L_fill 13 = .ok (.astore 4, 2) := by decide +kernel
theorem d_L_fill_15 : decode b_L_fill 15 = .ok (.iconst 1, 1) := by decide +kernel
theorem d_L_fill_16 : decode b_L_fill 16 = .ok (.ireturn, 1) := by decide +kernel
theorem d_L_fill_17 : decode b_L_fill 17 = .ok (.astore 4, 2) := by decide +kernel
theorem d_L_fill_19 : decode b_L_fill 19 = .ok (.iconst 2, 1) := by decide +kernel
theorem d_L_fill_20 : decode b_L_fill 20 = .ok (.ireturn, 1) := by decide +kernel
theorem d_L_fill_21 : decode b_L_fill 21 = .ok (.iconst 0, 1) := by decide +kernel
theorem d_L_fill_22 : decode b_L_fill 22 = .ok (.ireturn, 1) := by decide +kernel
theorem d_D_fill_0 : decode b_D_fill 0 = .ok (.iload_n 2, 1) := by decide +kernel
theorem d_D_fill_1 : decode b_D_fill 1 = .ok (.iconst 1, 1) := by decide +kernel
theorem d_D_fill_2 : decode b_D_fill 2 = .ok (.if_icmp .lt 9, 3) := by decide +kernel
theorem d_D_fill_5 : decode b_D_fill 5 = .ok (.iload_n 2, 1) := by decide +kernel
theorem d_D_fill_6 : decode b_D_fill 6 = .ok (.ldc 83, 2) := by decide +kernel
theorem d_D_fill_8 : decode b_D_fill 8 = .ok (.if_icmp .le 13, 3) := by decide +kernel
theorem d_D_fill_11 : decode b_D_fill 11 = .ok (.new 55, 3) := by decide +kernel
theorem d_D_fill_14 : decode b_D_fill 14 = .ok (.dup, 1) := by decide +kernel
theorem d_D_fill_15 : decode b_D_fill 15 = .ok (.ldc 84, 2) := by decide +kernel
theorem d_D_fill_17 : decode b_D_fill 17 = .ok (.invokespecial 59, 3) := by decide +kernel
theorem d_D_fill_20 : decode b_D_fill 20 = .ok (.athrow, 1) := by decide +kernel
theorem d_D_fill_21 : decode b_D_fill 21 = .ok (.aload_n 0, 1) := by decide +kernel
theorem d_D_fill_22 : decode b_D_fill 22 = .ok (.getfield 23, 3) := by decide +kernel
theorem d_D_fill_25 : decode b_D_fill 25 = .ok (.getfield 62, 3) := by decide +kernel
theorem d_D_fill_28 : decode b_D_fill 28 = .ok (.ifCond .ne 14, 3) := by decide +kernel
theorem d_D_fill_31 : decode b_D_fill 31 = .ok (.aload_n 0, 1) := by decide +kernel
theorem d_D_fill_32 : decode b_D_fill 32 = .ok (.getfield 30, 3) := by decide +kernel
theorem d_D_fill_35 : decode b_D_fill 35 = .ok (.iload_n 2, 1) := by decide +kernel
theorem d_D_fill_36 : decode b_D_fill 36 = .ok (.invokevirtual 66, 3) := by decide +kernel
theorem d_D_fill_39 : decode b_D_fill 39 = .ok (.ifCond .ne 13, 3) := by decide +kernel
theorem d_D_fill_42 : decode b_D_fill 42 = .ok (.new 70, 3) := by decide +kernel
theorem d_D_fill_45 : decode b_D_fill 45 = .ok (.dup, 1) := by decide +kernel
theorem d_D_fill_46 : decode b_D_fill 46 = .ok (.ldc 72, 2) := by decide +kernel
theorem d_D_fill_48 : decode b_D_fill 48 = .ok (.invokespecial 74, 3) := by decide +kernel
theorem d_D_fill_51 : decode b_D_fill 51 = .ok (.athrow, 1) := by decide +kernel
theorem d_D_fill_52 : decode b_D_fill 52 = .ok (.iconst 0, 1) := by decide +kernel
theorem d_D_fill_53 : decode b_D_fill 53 = .ok (.istore_n 3, 1) := by decide +kernel
theorem d_D_fill_54 : decode b_D_fill 54 = .ok (.iload_n 3, 1) := by decide +kernel
theorem d_D_fill_55 : decode b_D_fill 55 = .ok (.iload_n 2, 1) := by decide +kernel
theorem d_D_fill_56 : decode b_D_fill 56 = .ok (.if_icmp .ge 20, 3) := by decide +kernel
theorem d_D_fill_59 : decode b_D_fill 59 = .ok (.aload_n 0, 1) := by decide +kernel
theorem d_D_fill_60 : decode b_D_fill 60 = .ok (.getfield 30, 3) := by decide +kernel
theorem d_D_fill_63 : decode b_D_fill 63 = .ok (.iload_n 1, 1) := by decide +kernel
theorem d_D_fill_64 : decode b_D_fill 64 = .ok (.iload_n 3, 1) := by decide +kernel
theorem d_D_fill_65 : decode b_D_fill 65 = .ok (.iadd, 1) := by decide +kernel
theorem d_D_fill_66 : decode b_D_fill 66 = .ok (.i2b, 1) := by decide +kernel
theorem d_D_fill_67 : decode b_D_fill 67 = .ok (.invokevirtual 75, 3) := by decide +kernel
theorem d_D_fill_70 : decode b_D_fill 70 = .ok (.iinc 3 1, 3) := by decide +kernel
theorem d_D_fill_73 : decode b_D_fill 73 = .ok (.goto (-19), 3) := by decide +kernel
theorem d_D_fill_76 : decode b_D_fill 76 = .ok (.aload_n 0, 1) := by decide +kernel
theorem d_D_fill_77 : decode b_D_fill 77 = .ok (.getfield 30, 3) := by decide +kernel
theorem d_D_fill_80 : decode b_D_fill 80 = .ok (.getfield 79, 3) := by decide +kernel
theorem d_D_fill_83 : decode b_D_fill 83 = .ok (.ireturn, 1) := by decide +kernel
theorem d_L_drop_0 : decode b_L_drop 0 = .ok (.aload_n 1, 1) := by decide +kernel
theorem d_L_drop_1 : decode b_L_drop 1 = .ok (.iconst 0, 1) := by decide +kernel
theorem d_L_drop_2 : decode b_L_drop 2 = .ok (.aload_n 0, 1) := by decide +kernel
theorem d_L_drop_3 : decode b_L_drop 3 = .ok (.invokevirtual 21, 3) := by decide +kernel
theorem d_L_drop_6 : decode b_L_drop 6 = .ok (.i2l, 1) := by decide +kernel
theorem d_L_drop_7 : decode b_L_drop 7 = .ok (.lastore, 1) := by decide +kernel
theorem d_L_drop_8 : decode b_L_drop 8 = .ok (.goto 6, 3) := by decide +kernel
theorem d_L_drop_11 : decode b_L_drop 11 = .ok (.astore_n 2, 1) := by decide +kernel
theorem d_L_drop_12 : decode b_L_drop 12 = .ok (.iconst 1, 1) := by decide +kernel
theorem d_L_drop_13 : decode b_L_drop 13 = .ok (.ireturn, 1) := by decide +kernel
theorem d_L_drop_14 : decode b_L_drop 14 = .ok (.iconst 0, 1) := by decide +kernel
theorem d_L_drop_15 : decode b_L_drop 15 = .ok (.ireturn, 1) := by decide +kernel
theorem d_D_drop_0 : decode b_D_drop 0 = .ok (.aload_n 0, 1) := by decide +kernel
theorem d_D_drop_1 : decode b_D_drop 1 = .ok (.getfield 23, 3) := by decide +kernel
theorem d_D_drop_4 : decode b_D_drop 4 = .ok (.getfield 62, 3) := by decide +kernel
theorem d_D_drop_7 : decode b_D_drop 7 = .ok (.ifCond .eq 13, 3) := by decide +kernel
theorem d_D_drop_10 : decode b_D_drop 10 = .ok (.new 70, 3) := by decide +kernel
theorem d_D_drop_13 : decode b_D_drop 13 = .ok (.dup, 1) := by decide +kernel
theorem d_D_drop_14 : decode b_D_drop 14 = .ok (.ldc 86, 2) := by decide +kernel
theorem d_D_drop_16 : decode b_D_drop 16 = .ok (.invokespecial 74, 3) := by decide +kernel
theorem d_D_drop_19 : decode b_D_drop 19 = .ok (.athrow, 1) := by decide +kernel
theorem d_D_drop_20 : decode b_D_drop 20 = .ok (.aload_n 0, 1) := by decide +kernel
theorem d_D_drop_21 : decode b_D_drop 21 = .ok (.getfield 30, 3) := by decide +kernel
theorem d_D_drop_24 : decode b_D_drop 24 = .ok (.getfield 79, 3) := by decide +kernel
theorem d_D_drop_27 : decode b_D_drop 27 = .ok (.istore_n 1, 1) := by decide +kernel
theorem d_D_drop_28 : decode b_D_drop 28 = .ok (.aload_n 0, 1) := by decide +kernel
theorem d_D_drop_29 : decode b_D_drop 29 = .ok (.getfield 30, 3) := by decide +kernel
theorem d_D_drop_32 : decode b_D_drop 32 = .ok (.iconst 0, 1) := by decide +kernel
theorem d_D_drop_33 : decode b_D_drop 33 = .ok (.putfield 79, 3) := by decide +kernel
theorem d_D_drop_36 : decode b_D_drop 36 = .ok (.iload_n 1, 1) := by decide +kernel
theorem d_D_drop_37 : decode b_D_drop 37 = .ok (.ireturn, 1) := by decide +kernel
theorem d_L_wish_0 : decode b_L_wish 0 = .ok (.aload_n 3, 1) := by decide +kernel
theorem d_L_wish_1 : decode b_L_wish 1 = .ok (.iconst 0, 1) := by decide +kernel
theorem d_L_wish_2 : decode b_L_wish 2 = .ok (.aload_n 0, 1) := by decide +kernel
theorem d_L_wish_3 : decode b_L_wish 3 = .ok (.iload_n 1, 1) := by decide +kernel
theorem d_L_wish_4 : decode b_L_wish 4 = .ok (.iload_n 2, 1) := by decide +kernel
theorem d_L_wish_5 : decode b_L_wish 5 = .ok (.invokevirtual 25, 3) := by decide +kernel
theorem d_L_wish_8 : decode b_L_wish 8 = .ok (.i2l, 1) := by decide +kernel
theorem d_L_wish_9 : decode b_L_wish 9 = .ok (.lastore, 1) := by decide +kernel
theorem d_L_wish_10 : decode b_L_wish 10 = .ok (.goto 11, 3) := by decide +kernel
theorem d_L_wish_13 : decode b_L_wish 13 = .ok (.astore 4, 2) := by decide +kernel
theorem d_L_wish_15 : decode b_L_wish 15 = .ok (.iconst 1, 1) := by decide +kernel
theorem d_L_wish_16 : decode b_L_wish 16 = .ok (.ireturn, 1) := by decide +kernel
theorem d_L_wish_17 : decode b_L_wish 17 = .ok (.astore 4, 2) := by decide +kernel
theorem d_L_wish_19 : decode b_L_wish 19 = .ok (.iconst 2, 1) := by decide +kernel
theorem d_L_wish_20 : decode b_L_wish 20 = .ok (.ireturn, 1) := by decide +kernel
theorem d_L_wish_21 : decode b_L_wish 21 = .ok (.iconst 0, 1) := by decide +kernel
theorem d_L_wish_22 : decode b_L_wish 22 = .ok (.ireturn, 1) := by decide +kernel
theorem d_D_wish_0 : decode b_D_wish 0 = .ok (.iload_n 1, 1) := by decide +kernel
theorem d_D_wish_1 : decode b_D_wish 1 = .ok (.ifCond .lt 9, 3) := by decide +kernel
theorem d_D_wish_4 : decode b_D_wish 4 = .ok (.iload_n 1, 1) := by decide +kernel
theorem d_D_wish_5 : decode b_D_wish 5 = .ok (.bipush 24, 2) := by decide +kernel
theorem d_D_wish_7 : decode b_D_wish 7 = .ok (.if_icmp .lt 13, 3) := by decide +kernel
theorem d_D_wish_10 : decode b_D_wish 10 = .ok (.new 55, 3) := by decide +kernel
theorem d_D_wish_13 : decode b_D_wish 13 = .ok (.dup, 1) := by decide +kernel
theorem d_D_wish_14 : decode b_D_wish 14 = .ok (.ldc 88, 2) := by decide +kernel
theorem d_D_wish_16 : decode b_D_wish 16 = .ok (.invokespecial 59, 3) := by decide +kernel
theorem d_D_wish_19 : decode b_D_wish 19 = .ok (.athrow, 1) := by decide +kernel
theorem d_D_wish_20 : decode b_D_wish 20 = .ok (.aload_n 0, 1) := by decide +kernel
theorem d_D_wish_21 : decode b_D_wish 21 = .ok (.getfield 23, 3) := by decide +kernel
theorem d_D_wish_24 : decode b_D_wish 24 = .ok (.getfield 62, 3) := by decide +kernel
theorem d_D_wish_27 : decode b_D_wish 27 = .ok (.ifCond .eq 13, 3) := by decide +kernel
theorem d_D_wish_30 : decode b_D_wish 30 = .ok (.new 70, 3) := by decide +kernel
theorem d_D_wish_33 : decode b_D_wish 33 = .ok (.dup, 1) := by decide +kernel
theorem d_D_wish_34 : decode b_D_wish 34 = .ok (.ldc 86, 2) := by decide +kernel
theorem d_D_wish_36 : decode b_D_wish 36 = .ok (.invokespecial 74, 3) := by decide +kernel
theorem d_D_wish_39 : decode b_D_wish 39 = .ok (.athrow, 1) := by decide +kernel
theorem d_D_wish_40 : decode b_D_wish 40 = .ok (.aload_n 0, 1) := by decide +kernel
theorem d_D_wish_41 : decode b_D_wish 41 = .ok (.getfield 34, 3) := by decide +kernel
theorem d_D_wish_44 : decode b_D_wish 44 = .ok (.iload_n 1, 1) := by decide +kernel
theorem d_D_wish_45 : decode b_D_wish 45 = .ok (.iaload, 1) := by decide +kernel
theorem d_D_wish_46 : decode b_D_wish 46 = .ok (.istore_n 3, 1) := by decide +kernel
theorem d_D_wish_47 : decode b_D_wish 47 = .ok (.aload_n 0, 1) := by decide +kernel
theorem d_D_wish_48 : decode b_D_wish 48 = .ok (.getfield 34, 3) := by decide +kernel
theorem d_D_wish_51 : decode b_D_wish 51 = .ok (.iload_n 1, 1) := by decide +kernel
theorem d_D_wish_52 : decode b_D_wish 52 = .ok (.iload_n 2, 1) := by decide +kernel
theorem d_D_wish_53 : decode b_D_wish 53 = .ok (.iastore, 1) := by decide +kernel
theorem d_D_wish_54 : decode b_D_wish 54 = .ok (.iload_n 3, 1) := by decide +kernel
theorem d_D_wish_55 : decode b_D_wish 55 = .ok (.ireturn, 1) := by decide +kernel
theorem d_L_note_0 : decode b_L_note 0 = .ok (.aload_n 2, 1) := by decide +kernel
theorem d_L_note_1 : decode b_L_note 1 = .ok (.iconst 0, 1) := by decide +kernel
theorem d_L_note_2 : decode b_L_note 2 = .ok (.aload_n 0, 1) := by decide +kernel
theorem d_L_note_3 : decode b_L_note 3 = .ok (.iload_n 1, 1) := by decide +kernel
theorem d_L_note_4 : decode b_L_note 4 = .ok (.invokevirtual 28, 3) := by decide +kernel
theorem d_L_note_7 : decode b_L_note 7 = .ok (.i2l, 1) := by decide +kernel
theorem d_L_note_8 : decode b_L_note 8 = .ok (.lastore, 1) := by decide +kernel
theorem d_L_note_9 : decode b_L_note 9 = .ok (.goto 9, 3) := by decide +kernel
theorem d_L_note_12 : decode b_L_note 12 = .ok (.astore_n 3, 1) := by decide +kernel
theorem d_L_note_13 : decode b_L_note 13 = .ok (.iconst 1, 1) := by decide +kernel
theorem d_L_note_14 : decode b_L_note 14 = .ok (.ireturn, 1) := by decide +kernel
theorem d_L_note_15 : decode b_L_note 15 = .ok (.astore_n 3, 1) := by decide +kernel
theorem d_L_note_16 : decode b_L_note 16 = .ok (.iconst 2, 1) := by decide +kernel
theorem d_L_note_17 : decode b_L_note 17 = .ok (.ireturn, 1) := by decide +kernel
theorem d_L_note_18 : decode b_L_note 18 = .ok (.iconst 0, 1) := by decide +kernel
theorem d_L_note_19 : decode b_L_note 19 = .ok (.ireturn, 1) := by decide +kernel
theorem d_D_note_0 : decode b_D_note 0 = .ok (.iload_n 1, 1) := by decide +kernel
theorem d_D_note_1 : decode b_D_note 1 = .ok (.ifCond .lt 9, 3) := by decide +kernel
theorem d_D_note_4 : decode b_D_note 4 = .ok (.iload_n 1, 1) := by decide +kernel
theorem d_D_note_5 : decode b_D_note 5 = .ok (.bipush 24, 2) := by decide +kernel
theorem d_D_note_7 : decode b_D_note 7 = .ok (.if_icmp .lt 13, 3) := by decide +kernel
theorem d_D_note_10 : decode b_D_note 10 = .ok (.new 55, 3) := by decide +kernel
theorem d_D_note_13 : decode b_D_note 13 = .ok (.dup, 1) := by decide +kernel
theorem d_D_note_14 : decode b_D_note 14 = .ok (.ldc 88, 2) := by decide +kernel
theorem d_D_note_16 : decode b_D_note 16 = .ok (.invokespecial 59, 3) := by decide +kernel
theorem d_D_note_19 : decode b_D_note 19 = .ok (.athrow, 1) := by decide +kernel
theorem d_D_note_20 : decode b_D_note 20 = .ok (.aload_n 0, 1) := by decide +kernel
theorem d_D_note_21 : decode b_D_note 21 = .ok (.getfield 23, 3) := by decide +kernel
theorem d_D_note_24 : decode b_D_note 24 = .ok (.getfield 62, 3) := by decide +kernel
theorem d_D_note_27 : decode b_D_note 27 = .ok (.ifCond .eq 13, 3) := by decide +kernel
theorem d_D_note_30 : decode b_D_note 30 = .ok (.new 70, 3) := by decide +kernel
theorem d_D_note_33 : decode b_D_note 33 = .ok (.dup, 1) := by decide +kernel
theorem d_D_note_34 : decode b_D_note 34 = .ok (.ldc 86, 2) := by decide +kernel
theorem d_D_note_36 : decode b_D_note 36 = .ok (.invokespecial 74, 3) := by decide +kernel
theorem d_D_note_39 : decode b_D_note 39 = .ok (.athrow, 1) := by decide +kernel
theorem d_D_note_40 : decode b_D_note 40 = .ok (.aload_n 0, 1) := by decide +kernel
theorem d_D_note_41 : decode b_D_note 41 = .ok (.getfield 48, 3) := by decide +kernel
theorem d_D_note_44 : decode b_D_note 44 = .ok (.getfield 90, 3) := by decide +kernel
theorem d_D_note_47 : decode b_D_note 47 = .ok (.iload_n 1, 1) := by decide +kernel
theorem d_D_note_48 : decode b_D_note 48 = .ok (.iaload, 1) := by decide +kernel
theorem d_D_note_49 : decode b_D_note 49 = .ok (.ireturn, 1) := by decide +kernel
theorem d_L_change_0 : decode b_L_change 0 = .ok (.aload 4, 2) := by decide +kernel
theorem d_L_change_2 : decode b_L_change 2 = .ok (.iconst 0, 1) := by decide +kernel
theorem d_L_change_3 : decode b_L_change 3 = .ok (.aload_n 0, 1) := by decide +kernel
theorem d_L_change_4 : decode b_L_change 4 = .ok (.iload_n 1, 1) := by decide +kernel
theorem d_L_change_5 : decode b_L_change 5 = .ok (.iload_n 2, 1) := by decide +kernel
theorem d_L_change_6 : decode b_L_change 6 = .ok (.iload_n 3, 1) := by decide +kernel
theorem d_L_change_7 : decode b_L_change 7 = .ok (.invokevirtual 32, 3) := by decide +kernel
theorem d_L_change_10 : decode b_L_change 10 = .ok (.i2l, 1) := by decide +kernel
theorem d_L_change_11 : decode b_L_change 11 = .ok (.lastore, 1) := by decide +kernel
theorem d_L_change_12 : decode b_L_change 12 = .ok (.goto 7, 3) := by decide +kernel
theorem d_L_change_15 : decode b_L_change 15 = .ok (.astore 5, 2) := by decide +kernel
theorem d_L_change_17 : decode b_L_change 17 = .ok (.iconst 1, 1) := by decide +kernel
theorem d_L_change_18 : decode b_L_change 18 = .ok (.ireturn, 1) := by decide +kernel
theorem d_L_change_19 : decode b_L_change 19 = .ok (.iconst 0, 1) := by decide +kernel
theorem d_L_change_20 : decode b_L_change 20 = .ok (.ireturn, 1) := by decide +kernel
theorem d_D_change_0 : decode b_D_change 0 = .ok (.aload_n 0, 1) := by decide +kernel
theorem d_D_change_1 : decode b_D_change 1 = .ok (.getfield 23, 3) := by decide +kernel
theorem d_D_change_4 : decode b_D_change 4 = .ok (.getfield 62, 3) := by decide +kernel
theorem d_D_change_7 : decode b_D_change 7 = .ok (.ifCond .eq 13, 3) := by decide +kernel
theorem d_D_change_10 : decode b_D_change 10 = .ok (.new 70, 3) := by decide +kernel
theorem d_D_change_13 : decode b_D_change 13 = .ok (.dup, 1) := by decide +kernel
theorem d_D_change_14 : decode b_D_change 14 = .ok (.ldc 86, 2) := by decide +kernel
theorem d_D_change_16 : decode b_D_change 16 = .ok (.invokespecial 74, 3) := by decide +kernel
theorem d_D_change_19 : decode b_D_change 19 = .ok (.athrow, 1) := by decide +kernel
theorem d_D_change_20 : decode b_D_change 20 = .ok (.aload_n 0, 1) := by decide +kernel
theorem d_D_change_21 : decode b_D_change 21 = .ok (.getfield 52, 3) := by decide +kernel
theorem d_D_change_24 : decode b_D_change 24 = .ok (.aload_n 0, 1) := by decide +kernel
theorem d_D_change_25 : decode b_D_change 25 = .ok (.getfield 48, 3) := by decide +kernel
theorem d_D_change_28 : decode b_D_change 28 = .ok (.iload_n 2, 1) := by decide +kernel
theorem d_D_change_29 : decode b_D_change 29 = .ok (.iload_n 3, 1) := by decide +kernel
theorem d_D_change_30 : decode b_D_change 30 = .ok (.invokevirtual 93, 3) := by decide +kernel
theorem d_D_change_33 : decode b_D_change 33 = .ok (.aload_n 0, 1) := by decide +kernel
theorem d_D_change_34 : decode b_D_change 34 = .ok (.getfield 52, 3) := by decide +kernel
theorem d_D_change_37 : decode b_D_change 37 = .ok (.aload_n 0, 1) := by decide +kernel
theorem d_D_change_38 : decode b_D_change 38 = .ok (.getfield 34, 3) := by decide +kernel
theorem d_D_change_41 : decode b_D_change 41 = .ok (.invokevirtual 97, 3) := by decide +kernel
theorem d_D_change_44 : decode b_D_change 44 = .ok (.iconst (-1), 1) := by decide +kernel
theorem d_D_change_45 : decode b_D_change 45 = .ok (.istore 4, 2) := by decide +kernel
theorem d_D_change_47 : decode b_D_change 47 = .ok (.aload_n 0, 1) := by decide +kernel
theorem d_D_change_48 : decode b_D_change 48 = .ok (.getfield 30, 3) := by decide +kernel
theorem d_D_change_51 : decode b_D_change 51 = .ok (.getfield 79, 3) := by decide +kernel
theorem d_D_change_54 : decode b_D_change 54 = .ok (.ifCond .le 48, 3) := by decide +kernel
theorem d_D_change_57 : decode b_D_change 57 = .ok (.aload_n 0, 1) := by decide +kernel
theorem d_D_change_58 : decode b_D_change 58 = .ok (.aload_n 0, 1) := by decide +kernel
theorem d_D_change_59 : decode b_D_change 59 = .ok (.getfield 30, 3) := by decide +kernel
theorem d_D_change_62 : decode b_D_change 62 = .ok (.getfield 79, 3) := by decide +kernel
theorem d_D_change_65 : decode b_D_change 65 = .ok (.invokestatic 101, 3) := by decide +kernel
theorem d_D_change_68 : decode b_D_change 68 = .ok (.invokevirtual 105, 3) := by decide +kernel
theorem d_D_change_71 : decode b_D_change 71 = .ok (.istore 4, 2) := by decide +kernel
theorem d_D_change_73 : decode b_D_change 73 = .ok (.iload 4, 2) := by decide +kernel
theorem d_D_change_75 : decode b_D_change 75 = .ok (.iconst (-1), 1) := by decide +kernel
theorem d_D_change_76 : decode b_D_change 76 = .ok (.if_icmp .eq 23, 3) := by decide +kernel
theorem d_D_change_79 : decode b_D_change 79 = .ok (.aload_n 0, 1) := by decide +kernel
theorem d_D_change_80 : decode b_D_change 80 = .ok (.getfield 52, 3) := by decide +kernel
theorem d_D_change_83 : decode b_D_change 83 = .ok (.iload_n 1, 1) := by decide +kernel
theorem d_D_change_84 : decode b_D_change 84 = .ok (.iload 4, 2) := by decide +kernel
theorem d_D_change_86 : decode b_D_change 86 = .ok (.aload_n 0, 1) := by decide +kernel
theorem d_D_change_87 : decode b_D_change 87 = .ok (.getfield 30, 3) := by decide +kernel
theorem d_D_change_90 : decode b_D_change 90 = .ok (.getfield 79, 3) := by decide +kernel
theorem d_D_change_93 : decode b_D_change 93 = .ok (.invokevirtual 108, 3) := by decide +kernel
theorem d_D_change_96 : decode b_D_change 96 = .ok (.ifCond .ne 6, 3) := by decide +kernel
theorem d_D_change_99 : decode b_D_change 99 = .ok (.bipush (-2), 2) := by decide +kernel
theorem d_D_change_101 : decode b_D_change 101 = .ok (.ireturn, 1) := by decide +kernel
theorem d_D_change_102 : decode b_D_change 102 = .ok (.aload_n 0, 1) := by decide +kernel
theorem d_D_change_103 : decode b_D_change 103 = .ok (.iload 4, 2) := by decide +kernel
theorem d_D_change_105 : decode b_D_change 105 = .ok (.invokevirtual 112, 3) := by decide +kernel
theorem d_D_change_108 : decode b_D_change 108 = .ok (.ireturn, 1) := by decide +kernel
theorem d_M_follow_0 : decode b_M_follow 0 = .ok (.aload_n 0, 1) := by decide +kernel
theorem d_M_follow_1 : decode b_M_follow 1 = .ok (.invokevirtual 37, 3) := by decide +kernel
theorem d_M_follow_4 : decode b_M_follow 4 = .ok (.aload_n 0, 1) := by decide +kernel
theorem d_M_follow_5 : decode b_M_follow 5 = .ok (.aload_n 1, 1) := by decide +kernel
theorem d_M_follow_6 : decode b_M_follow 6 = .ok (.getfield 28, 3) := by decide +kernel
theorem d_M_follow_9 : decode b_M_follow 9 = .ok (.iconst 1, 1) := by decide +kernel
theorem d_M_follow_10 : decode b_M_follow 10 = .ok (.iadd, 1) := by decide +kernel
theorem d_M_follow_11 : decode b_M_follow 11 = .ok (.putfield 28, 3) := by decide +kernel
theorem d_M_follow_14 : decode b_M_follow 14 = .ok (.iconst 0, 1) := by decide +kernel
theorem d_M_follow_15 : decode b_M_follow 15 = .ok (.istore 4, 2) := by decide +kernel
theorem d_M_follow_17 : decode b_M_follow 17 = .ok (.iload 4, 2) := by decide +kernel
theorem d_M_follow_19 : decode b_M_follow 19 = .ok (.aload_n 1, 1) := by decide +kernel
theorem d_M_follow_20 : decode b_M_follow 20 = .ok (.getfield 24, 3) := by decide +kernel
theorem d_M_follow_23 : decode b_M_follow 23 = .ok (.if_icmp .ge 59, 3) := by decide +kernel
theorem d_M_follow_26 : decode b_M_follow 26 = .ok (.iload 4, 2) := by decide +kernel
theorem d_M_follow_28 : decode b_M_follow 28 = .ok (.sipush 200, 3) := by decide +kernel
theorem d_M_follow_31 : decode b_M_follow 31 = .ok (.if_icmp .ge 51, 3) := by decide +kernel
theorem d_M_follow_34 : decode b_M_follow 34 = .ok (.aload_n 1, 1) := by decide +kernel
theorem d_M_follow_35 : decode b_M_follow 35 = .ok (.getfield 11, 3) := by decide +kernel
theorem d_M_follow_38 : decode b_M_follow 38 = .ok (.iload 4, 2) := by decide +kernel
theorem d_M_follow_40 : decode b_M_follow 40 = .ok (.iaload, 1) := by decide +kernel
theorem d_M_follow_41 : decode b_M_follow 41 = .ok (.istore 5, 2) := by decide +kernel
theorem d_M_follow_43 : decode b_M_follow 43 = .ok (.iload 5, 2) := by decide +kernel
theorem d_M_follow_45 : decode b_M_follow 45 = .ok (.iload_n 2, 1) := by decide +kernel
theorem d_M_follow_46 : decode b_M_follow 46 = .ok (.if_icmp .lt 9, 3) := by decide +kernel
theorem d_M_follow_49 : decode b_M_follow 49 = .ok (.iload 5, 2) := by decide +kernel
theorem d_M_follow_51 : decode b_M_follow 51 = .ok (.iload_n 3, 1) := by decide +kernel
theorem d_M_follow_52 : decode b_M_follow 52 = .ok (.if_icmp .le 24, 3) := by decide +kernel
theorem d_M_follow_55 : decode b_M_follow 55 = .ok (.aload_n 0, 1) := by decide +kernel
theorem d_M_follow_56 : decode b_M_follow 56 = .ok (.iload 5, 2) := by decide +kernel
theorem d_M_follow_58 : decode b_M_follow 58 = .ok (.aload_n 1, 1) := by decide +kernel
theorem d_M_follow_59 : decode b_M_follow 59 = .ok (.getfield 15, 3) := by decide +kernel
theorem d_M_follow_62 : decode b_M_follow 62 = .ok (.iload 4, 2) := by decide +kernel
theorem d_M_follow_64 : decode b_M_follow 64 = .ok (.iaload, 1) := by decide +kernel
theorem d_M_follow_65 : decode b_M_follow 65 = .ok (.aload_n 1, 1) := by decide +kernel
theorem d_M_follow_66 : decode b_M_follow 66 = .ok (.getfield 18, 3) := by decide +kernel
theorem d_M_follow_69 : decode b_M_follow 69 = .ok (.iload 4, 2) := by decide +kernel
theorem d_M_follow_71 : decode b_M_follow 71 = .ok (.iaload, 1) := by decide +kernel
theorem d_M_follow_72 : decode b_M_follow 72 = .ok (.invokevirtual 40, 3) := by decide +kernel
theorem d_M_follow_75 : decode b_M_follow 75 = .ok (.pop, 1) := by decide +kernel
theorem d_M_follow_76 : decode b_M_follow 76 = .ok (.iinc 4 1, 3) := by decide +kernel
theorem d_M_follow_79 : decode b_M_follow 79 = .ok (.goto (-62), 3) := by decide +kernel
theorem d_M_follow_82 : decode b_M_follow 82 = .ok (.return_, 1) := by decide +kernel
theorem d_M_takeNotes_0 : decode b_M_takeNotes 0 = .ok (.iconst 0, 1) := by decide +kernel
theorem d_M_takeNotes_1 : decode b_M_takeNotes 1 = .ok (.istore_n 2, 1) := by decide +kernel
theorem d_M_takeNotes_2 : decode b_M_takeNotes 2 = .ok (.iload_n 2, 1) := by decide +kernel
theorem d_M_takeNotes_3 : decode b_M_takeNotes 3 = .ok (.bipush 24, 2) := by decide +kernel
theorem d_M_takeNotes_5 : decode b_M_takeNotes 5 = .ok (.if_icmp .ge 24, 3) := by decide +kernel
theorem d_M_takeNotes_8 : decode b_M_takeNotes 8 = .ok (.iload_n 2, 1) := by decide +kernel
theorem d_M_takeNotes_9 : decode b_M_takeNotes 9 = .ok (.aload_n 1, 1) := by decide +kernel
theorem d_M_takeNotes_10 : decode b_M_takeNotes 10 = .ok (.arraylength, 1) := by decide +kernel
theorem d_M_takeNotes_11 : decode b_M_takeNotes 11 = .ok (.if_icmp .ge 18, 3) := by decide +kernel
theorem d_M_takeNotes_14 : decode b_M_takeNotes 14 = .ok (.aload_n 0, 1) := by decide +kernel
theorem d_M_takeNotes_15 : decode b_M_takeNotes 15 = .ok (.getfield 21, 3) := by decide +kernel
theorem d_M_takeNotes_18 : decode b_M_takeNotes 18 = .ok (.iload_n 2, 1) := by decide +kernel
theorem d_M_takeNotes_19 : decode b_M_takeNotes 19 = .ok (.aload_n 1, 1) := by decide +kernel
theorem d_M_takeNotes_20 : decode b_M_takeNotes 20 = .ok (.iload_n 2, 1) := by decide +kernel
theorem d_M_takeNotes_21 : decode b_M_takeNotes 21 = .ok (.iaload, 1) := by decide +kernel
theorem d_M_takeNotes_22 : decode b_M_takeNotes 22 = .ok (.iastore, 1) := by decide +kernel
theorem d_M_takeNotes_23 : decode b_M_takeNotes 23 = .ok (.iinc 2 1, 3) := by decide +kernel
theorem d_M_takeNotes_26 : decode b_M_takeNotes 26 = .ok (.goto (-24), 3) := by decide +kernel
theorem d_M_takeNotes_29 : decode b_M_takeNotes 29 = .ok (.return_, 1) := by decide +kernel
theorem d_D_blocksFor_0 : decode b_D_blocksFor 0 = .ok (.iload_n 0, 1) := by decide +kernel
theorem d_D_blocksFor_1 : decode b_D_blocksFor 1 = .ok (.sipush 4096, 3) := by decide +kernel
theorem d_D_blocksFor_4 : decode b_D_blocksFor 4 = .ok (.iadd, 1) := by decide +kernel
theorem d_D_blocksFor_5 : decode b_D_blocksFor 5 = .ok (.iconst 1, 1) := by decide +kernel
theorem d_D_blocksFor_6 : decode b_D_blocksFor 6 = .ok (.isub, 1) := by decide +kernel
theorem d_D_blocksFor_7 : decode b_D_blocksFor 7 = .ok (.sipush 4096, 3) := by decide +kernel
theorem d_D_blocksFor_10 : decode b_D_blocksFor 10 = .ok (.idiv, 1) := by decide +kernel
theorem d_D_blocksFor_11 : decode b_D_blocksFor 11 = .ok (.ireturn, 1) := by decide +kernel
theorem d_D_firstFreeRow_0 : decode b_D_firstFreeRow 0 = .ok (.aload_n 0, 1) := by decide +kernel
theorem d_D_firstFreeRow_1 : decode b_D_firstFreeRow 1 = .ok (.getfield 48, 3) := by decide +kernel
theorem d_D_firstFreeRow_4 : decode b_D_firstFreeRow 4 = .ok (.aload_n 0, 1) := by decide +kernel
theorem d_D_firstFreeRow_5 : decode b_D_firstFreeRow 5 = .ok (.getfield 42, 3) := by decide +kernel
theorem d_D_firstFreeRow_8 : decode b_D_firstFreeRow 8 = .ok (.invokevirtual 170, 3) := by decide +kernel
theorem d_D_firstFreeRow_11 : decode b_D_firstFreeRow 11 = .ok (.iconst 0, 1) := by decide +kernel
theorem d_D_firstFreeRow_12 : decode b_D_firstFreeRow 12 = .ok (.istore_n 2, 1) := by decide +kernel
theorem d_D_firstFreeRow_13 : decode b_D_firstFreeRow 13 = .ok (.iconst 2, 1) := by decide +kernel
theorem d_D_firstFreeRow_14 : decode b_D_firstFreeRow 14 = .ok (.istore_n 3, 1) := by decide +kernel
theorem d_D_firstFreeRow_15 : decode b_D_firstFreeRow 15 = .ok (.iload_n 3, 1) := by decide +kernel
theorem d_D_firstFreeRow_16 : decode b_D_firstFreeRow 16 = .ok (.aload_n 0, 1) := by decide +kernel
theorem d_D_firstFreeRow_17 : decode b_D_firstFreeRow 17 = .ok (.getfield 42, 3) := by decide +kernel
theorem d_D_firstFreeRow_20 : decode b_D_firstFreeRow 20 = .ok (.arraylength, 1) := by decide +kernel
theorem d_D_firstFreeRow_21 : decode b_D_firstFreeRow 21 = .ok (.if_icmp .ge 37, 3) := by decide +kernel
theorem d_D_firstFreeRow_24 : decode b_D_firstFreeRow 24 = .ok (.aload_n 0, 1) := by decide +kernel
theorem d_D_firstFreeRow_25 : decode b_D_firstFreeRow 25 = .ok (.getfield 42, 3) := by decide +kernel
theorem d_D_firstFreeRow_28 : decode b_D_firstFreeRow 28 = .ok (.iload_n 3, 1) := by decide +kernel
theorem d_D_firstFreeRow_29 : decode b_D_firstFreeRow 29 = .ok (.iaload, 1) := by decide +kernel
theorem d_D_firstFreeRow_30 : decode b_D_firstFreeRow 30 = .ok (.ifCond .ne 9, 3) := by decide +kernel
theorem d_D_firstFreeRow_33 : decode b_D_firstFreeRow 33 = .ok (.iload_n 2, 1) := by decide +kernel
theorem d_D_firstFreeRow_34 : decode b_D_firstFreeRow 34 = .ok (.iconst 1, 1) := by decide +kernel
theorem d_D_firstFreeRow_35 : decode b_D_firstFreeRow 35 = .ok (.iadd, 1) := by decide +kernel
theorem d_D_firstFreeRow_36 : decode b_D_firstFreeRow 36 = .ok (.goto 4, 3) := by decide +kernel
theorem d_D_firstFreeRow_39 : decode b_D_firstFreeRow 39 = .ok (.iconst 0, 1) := by decide +kernel
theorem d_D_firstFreeRow_40 : decode b_D_firstFreeRow 40 = .ok (.istore_n 2, 1) := by decide +kernel
theorem d_D_firstFreeRow_41 : decode b_D_firstFreeRow 41 = .ok (.iload_n 2, 1) := by decide +kernel
theorem d_D_firstFreeRow_42 : decode b_D_firstFreeRow 42 = .ok (.iload_n 1, 1) := by decide +kernel
theorem d_D_firstFreeRow_43 : decode b_D_firstFreeRow 43 = .ok (.if_icmp .ne 9, 3) := by decide +kernel
theorem d_D_firstFreeRow_46 : decode b_D_firstFreeRow 46 = .ok (.iload_n 3, 1) := by decide +kernel
theorem d_D_firstFreeRow_47 : decode b_D_firstFreeRow 47 = .ok (.iload_n 1, 1) := by decide +kernel
theorem d_D_firstFreeRow_48 : decode b_D_firstFreeRow 48 = .ok (.isub, 1) := by decide +kernel
theorem d_D_firstFreeRow_49 : decode b_D_firstFreeRow 49 = .ok (.iconst 1, 1) := by decide +kernel
theorem d_D_firstFreeRow_50 : decode b_D_firstFreeRow 50 = .ok (.iadd, 1) := by decide +kernel
theorem d_D_firstFreeRow_51 : decode b_D_firstFreeRow 51 = .ok (.ireturn, 1) := by decide +kernel
theorem d_D_firstFreeRow_52 : decode b_D_firstFreeRow 52 = .ok (.iinc 3 1, 3) := by decide +kernel
theorem d_D_firstFreeRow_55 : decode b_D_firstFreeRow 55 = .ok (.goto (-40), 3) := by decide +kernel
theorem d_D_firstFreeRow_58 : decode b_D_firstFreeRow 58 = .ok (.iconst (-1), 1) := by decide +kernel
theorem d_D_firstFreeRow_59 : decode b_D_firstFreeRow 59 = .ok (.ireturn, 1) := by decide +kernel
theorem d_M_countTenants_0 : decode b_M_countTenants 0 = .ok (.aload_n 1, 1) := by decide +kernel
theorem d_M_countTenants_1 : decode b_M_countTenants 1 = .ok (.iconst 0, 1) := by decide +kernel
theorem d_M_countTenants_2 : decode b_M_countTenants 2 = .ok (.invokestatic 31, 3) := by decide +kernel
theorem d_M_countTenants_5 : decode b_M_countTenants 5 = .ok (.iconst 0, 1) := by decide +kernel
theorem d_M_countTenants_6 : decode b_M_countTenants 6 = .ok (.istore_n 2, 1) := by decide +kernel
theorem d_M_countTenants_7 : decode b_M_countTenants 7 = .ok (.iload_n 2, 1) := by decide +kernel
theorem d_M_countTenants_8 : decode b_M_countTenants 8 = .ok (.aload_n 0, 1) := by decide +kernel
theorem d_M_countTenants_9 : decode b_M_countTenants 9 = .ok (.getfield 24, 3) := by decide +kernel
theorem d_M_countTenants_12 : decode b_M_countTenants 12 = .ok (.if_icmp .ge 72, 3) := by decide +kernel
theorem d_M_countTenants_15 : decode b_M_countTenants 15 = .ok (.iload_n 2, 1) := by decide +kernel
theorem d_M_countTenants_16 : decode b_M_countTenants 16 = .ok (.sipush 200, 3) := by decide +kernel
theorem d_M_countTenants_19 : decode b_M_countTenants 19 = .ok (.if_icmp .ge 65, 3) := by decide +kernel
theorem d_M_countTenants_22 : decode b_M_countTenants 22 = .ok (.aload_n 0, 1) := by decide +kernel
theorem d_M_countTenants_23 : decode b_M_countTenants 23 = .ok (.getfield 15, 3) := by decide +kernel
theorem d_M_countTenants_26 : decode b_M_countTenants 26 = .ok (.iload_n 2, 1) := by decide +kernel
theorem d_M_countTenants_27 : decode b_M_countTenants 27 = .ok (.iaload, 1) := by decide +kernel
theorem d_M_countTenants_28 : decode b_M_countTenants 28 = .ok (.aload_n 0, 1) := by decide +kernel
theorem d_M_countTenants_29 : decode b_M_countTenants 29 = .ok (.getfield 18, 3) := by decide +kernel
theorem d_M_countTenants_32 : decode b_M_countTenants 32 = .ok (.iload_n 2, 1) := by decide +kernel
theorem d_M_countTenants_33 : decode b_M_countTenants 33 = .ok (.iaload, 1) := by decide +kernel
theorem d_M_countTenants_34 : decode b_M_countTenants 34 = .ok (.invokestatic 44, 3) := by decide +kernel
theorem d_M_countTenants_37 : decode b_M_countTenants 37 = .ok (.iadd, 1) := by decide +kernel
theorem d_M_countTenants_38 : decode b_M_countTenants 38 = .ok (.istore_n 3, 1) := by decide +kernel
theorem d_M_countTenants_39 : decode b_M_countTenants 39 = .ok (.iconst 0, 1) := by decide +kernel
theorem d_M_countTenants_40 : decode b_M_countTenants 40 = .ok (.aload_n 0, 1) := by decide +kernel
theorem d_M_countTenants_41 : decode b_M_countTenants 41 = .ok (.getfield 15, 3) := by decide +kernel
theorem d_M_countTenants_44 : decode b_M_countTenants 44 = .ok (.iload_n 2, 1) := by decide +kernel
theorem d_M_countTenants_45 : decode b_M_countTenants 45 = .ok (.iaload, 1) := by decide +kernel
theorem d_M_countTenants_46 : decode b_M_countTenants 46 = .ok (.invokestatic 48, 3) := by decide +kernel
theorem d_M_countTenants_49 : decode b_M_countTenants 49 = .ok (.istore 4, 2) := by decide +kernel
theorem d_M_countTenants_51 : decode b_M_countTenants 51 = .ok (.iload 4, 2) := by decide +kernel
theorem d_M_countTenants_53 : decode b_M_countTenants 53 = .ok (.iload_n 3, 1) := by decide +kernel
theorem d_M_countTenants_54 : decode b_M_countTenants 54 = .ok (.if_icmp .ge 24, 3) := by decide +kernel
theorem d_M_countTenants_57 : decode b_M_countTenants 57 = .ok (.iload 4, 2) := by decide +kernel
theorem d_M_countTenants_59 : decode b_M_countTenants 59 = .ok (.aload_n 1, 1) := by decide +kernel
theorem d_M_countTenants_60 : decode b_M_countTenants 60 = .ok (.arraylength, 1) := by decide +kernel
theorem d_M_countTenants_61 : decode b_M_countTenants 61 = .ok (.if_icmp .ge 17, 3) := by decide +kernel
theorem d_M_countTenants_64 : decode b_M_countTenants 64 = .ok (.aload_n 1, 1) := by decide +kernel
theorem d_M_countTenants_65 : decode b_M_countTenants 65 = .ok (.iload 4, 2) := by decide +kernel
theorem d_M_countTenants_67 : decode b_M_countTenants 67 = .ok (.dup2, 1) := by decide +kernel
theorem d_M_countTenants_68 : decode b_M_countTenants 68 = .ok (.iaload, 1) := by decide +kernel
theorem d_M_countTenants_69 : decode b_M_countTenants 69 = .ok (.iconst 1, 1) := by decide +kernel
theorem d_M_countTenants_70 : decode b_M_countTenants 70 = .ok (.iadd, 1) := by decide +kernel
theorem d_M_countTenants_71 : decode b_M_countTenants 71 = .ok (.iastore, 1) := by decide +kernel
theorem d_M_countTenants_72 : decode b_M_countTenants 72 = .ok (.iinc 4 1, 3) := by decide +kernel
theorem d_M_countTenants_75 : decode b_M_countTenants 75 = .ok (.goto (-24), 3) := by decide +kernel
theorem d_M_countTenants_78 : decode b_M_countTenants 78 = .ok (.iinc 2 1, 3) := by decide +kernel
theorem d_M_countTenants_81 : decode b_M_countTenants 81 = .ok (.goto (-74), 3) := by decide +kernel
theorem d_M_countTenants_84 : decode b_M_countTenants 84 = .ok (.return_, 1) := by decide +kernel
theorem d_D_carryOut_0 : decode b_D_carryOut 0 = .ok (.aload_n 0, 1) := by decide +kernel
theorem d_D_carryOut_1 : decode b_D_carryOut 1 = .ok (.getfield 30, 3) := by decide +kernel
theorem d_D_carryOut_4 : decode b_D_carryOut 4 = .ok (.getfield 79, 3) := by decide +kernel
theorem d_D_carryOut_7 : decode b_D_carryOut 7 = .ok (.invokestatic 101, 3) := by decide +kernel
theorem d_D_carryOut_10 : decode b_D_carryOut 10 = .ok (.istore_n 2, 1) := by decide +kernel
theorem d_D_carryOut_11 : decode b_D_carryOut 11 = .ok (.iconst 0, 1) := by decide +kernel
theorem d_D_carryOut_12 : decode b_D_carryOut 12 = .ok (.istore_n 3, 1) := by decide +kernel
theorem d_D_carryOut_13 : decode b_D_carryOut 13 = .ok (.iload_n 3, 1) := by decide +kernel
theorem d_D_carryOut_14 : decode b_D_carryOut 14 = .ok (.iload_n 2, 1) := by decide +kernel
theorem d_D_carryOut_15 : decode b_D_carryOut 15 = .ok (.if_icmp .ge 41, 3) := by decide +kernel
theorem d_D_carryOut_18 : decode b_D_carryOut 18 = .ok (.aload_n 0, 1) := by decide +kernel
theorem d_D_carryOut_19 : decode b_D_carryOut 19 = .ok (.getfield 23, 3) := by decide +kernel
theorem d_D_carryOut_22 : decode b_D_carryOut 22 = .ok (.iload_n 1, 1) := by decide +kernel
theorem d_D_carryOut_23 : decode b_D_carryOut 23 = .ok (.iload_n 3, 1) := by decide +kernel
theorem d_D_carryOut_24 : decode b_D_carryOut 24 = .ok (.iadd, 1) := by decide +kernel
theorem d_D_carryOut_25 : decode b_D_carryOut 25 = .ok (.aload_n 0, 1) := by decide +kernel
theorem d_D_carryOut_26 : decode b_D_carryOut 26 = .ok (.getfield 30, 3) := by decide +kernel
theorem d_D_carryOut_29 : decode b_D_carryOut 29 = .ok (.getfield 173, 3) := by decide +kernel
theorem d_D_carryOut_32 : decode b_D_carryOut 32 = .ok (.iload_n 3, 1) := by decide +kernel
theorem d_D_carryOut_33 : decode b_D_carryOut 33 = .ok (.sipush 4096, 3) := by decide +kernel
theorem d_D_carryOut_36 : decode b_D_carryOut 36 = .ok (.imul, 1) := by decide +kernel
theorem d_D_carryOut_37 : decode b_D_carryOut 37 = .ok (.invokevirtual 176, 3) := by decide +kernel
theorem d_D_carryOut_40 : decode b_D_carryOut 40 = .ok (.ifCond .ne 10, 3) := by decide +kernel
theorem d_D_carryOut_43 : decode b_D_carryOut 43 = .ok (.aload_n 0, 1) := by decide +kernel
theorem d_D_carryOut_44 : decode b_D_carryOut 44 = .ok (.invokevirtual 141, 3) := by decide +kernel
theorem d_D_carryOut_47 : decode b_D_carryOut 47 = .ok (.bipush (-3), 2) := by decide +kernel
theorem d_D_carryOut_49 : decode b_D_carryOut 49 = .ok (.ireturn, 1) := by decide +kernel
theorem d_D_carryOut_50 : decode b_D_carryOut 50 = .ok (.iinc 3 1, 3) := by decide +kernel
theorem d_D_carryOut_53 : decode b_D_carryOut 53 = .ok (.goto (-40), 3) := by decide +kernel
theorem d_D_carryOut_56 : decode b_D_carryOut 56 = .ok (.aload_n 0, 1) := by decide +kernel
theorem d_D_carryOut_57 : decode b_D_carryOut 57 = .ok (.getfield 52, 3) := by decide +kernel
theorem d_D_carryOut_60 : decode b_D_carryOut 60 = .ok (.aload_n 0, 1) := by decide +kernel
theorem d_D_carryOut_61 : decode b_D_carryOut 61 = .ok (.getfield 38, 3) := by decide +kernel
theorem d_D_carryOut_64 : decode b_D_carryOut 64 = .ok (.invokevirtual 180, 3) := by decide +kernel
theorem d_D_carryOut_67 : decode b_D_carryOut 67 = .ok (.aload_n 0, 1) := by decide +kernel
theorem d_D_carryOut_68 : decode b_D_carryOut 68 = .ok (.getfield 23, 3) := by decide +kernel
theorem d_D_carryOut_71 : decode b_D_carryOut 71 = .ok (.aload_n 0, 1) := by decide +kernel
theorem d_D_carryOut_72 : decode b_D_carryOut 72 = .ok (.getfield 52, 3) := by decide +kernel
theorem d_D_carryOut_75 : decode b_D_carryOut 75 = .ok (.getfield 148, 3) := by decide +kernel
theorem d_D_carryOut_78 : decode b_D_carryOut 78 = .ok (.iconst 1, 1) := by decide +kernel
theorem d_D_carryOut_79 : decode b_D_carryOut 79 = .ok (.iand, 1) := by decide +kernel
theorem d_D_carryOut_80 : decode b_D_carryOut 80 = .ok (.aload_n 0, 1) := by decide +kernel
theorem d_D_carryOut_81 : decode b_D_carryOut 81 = .ok (.getfield 38, 3) := by decide +kernel
theorem d_D_carryOut_84 : decode b_D_carryOut 84 = .ok (.iconst 0, 1) := by decide +kernel
theorem d_D_carryOut_85 : decode b_D_carryOut 85 = .ok (.invokevirtual 176, 3) := by decide +kernel
theorem d_D_carryOut_88 : decode b_D_carryOut 88 = .ok (.ifCond .ne 10, 3) := by decide +kernel
theorem d_D_carryOut_91 : decode b_D_carryOut 91 = .ok (.aload_n 0, 1) := by decide +kernel
theorem d_D_carryOut_92 : decode b_D_carryOut 92 = .ok (.invokevirtual 141, 3) := by decide +kernel
theorem d_D_carryOut_95 : decode b_D_carryOut 95 = .ok (.bipush (-3), 2) := by decide +kernel
theorem d_D_carryOut_97 : decode b_D_carryOut 97 = .ok (.ireturn, 1) := by decide +kernel
theorem d_D_carryOut_98 : decode b_D_carryOut 98 = .ok (.aload_n 0, 1) := by decide +kernel
theorem d_D_carryOut_99 : decode b_D_carryOut 99 = .ok (.invokevirtual 151, 3) := by decide +kernel
theorem d_D_carryOut_102 : decode b_D_carryOut 102 = .ok (.aload_n 0, 1) := by decide +kernel
theorem d_D_carryOut_103 : decode b_D_carryOut 103 = .ok (.getfield 30, 3) := by decide +kernel
theorem d_D_carryOut_106 : decode b_D_carryOut 106 = .ok (.iconst 0, 1) := by decide +kernel
