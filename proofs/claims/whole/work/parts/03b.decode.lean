theorem d_D_carryOut_107 : decode b_D_carryOut 107 = .ok (.putfield 79, 3) := by decide +kernel
theorem d_D_carryOut_110 : decode b_D_carryOut 110 = .ok (.iload_n 2, 1) := by decide +kernel
theorem d_D_carryOut_111 : decode b_D_carryOut 111 = .ok (.iconst 1, 1) := by decide +kernel
theorem d_D_carryOut_112 : decode b_D_carryOut 112 = .ok (.iadd, 1) := by decide +kernel
theorem d_D_carryOut_113 : decode b_D_carryOut 113 = .ok (.ireturn, 1) := by decide +kernel
theorem d_P_writeBlock_0 : decode b_P_writeBlock 0 = .ok (.iload_n 1, 1) := by decide +kernel
theorem d_P_writeBlock_1 : decode b_P_writeBlock 1 = .ok (.sipush 4096, 3) := by decide +kernel
theorem d_P_writeBlock_4 : decode b_P_writeBlock 4 = .ok (.imul, 1) := by decide +kernel
theorem d_P_writeBlock_5 : decode b_P_writeBlock 5 = .ok (.istore 4, 2) := by decide +kernel
theorem d_P_writeBlock_7 : decode b_P_writeBlock 7 = .ok (.aload_n 0, 1) := by decide +kernel
theorem d_P_writeBlock_8 : decode b_P_writeBlock 8 = .ok (.getfield 19, 3) := by decide +kernel
theorem d_P_writeBlock_11 : decode b_P_writeBlock 11 = .ok (.ifCond .ne 36, 3) := by decide +kernel
theorem d_P_writeBlock_14 : decode b_P_writeBlock 14 = .ok (.iload 4, 2) := by decide +kernel
theorem d_P_writeBlock_16 : decode b_P_writeBlock 16 = .ok (.ifCond .lt 31, 3) := by decide +kernel
theorem d_P_writeBlock_19 : decode b_P_writeBlock 19 = .ok (.iload 4, 2) := by decide +kernel
theorem d_P_writeBlock_21 : decode b_P_writeBlock 21 = .ok (.aload_n 0, 1) := by decide +kernel
theorem d_P_writeBlock_22 : decode b_P_writeBlock 22 = .ok (.getfield 9, 3) := by decide +kernel
theorem d_P_writeBlock_25 : decode b_P_writeBlock 25 = .ok (.arraylength, 1) := by decide +kernel
theorem d_P_writeBlock_26 : decode b_P_writeBlock 26 = .ok (.sipush 4096, 3) := by decide +kernel
theorem d_P_writeBlock_29 : decode b_P_writeBlock 29 = .ok (.isub, 1) := by decide +kernel
theorem d_P_writeBlock_30 : decode b_P_writeBlock 30 = .ok (.if_icmp .gt 17, 3) := by decide +kernel
theorem d_P_writeBlock_33 : decode b_P_writeBlock 33 = .ok (.iload_n 3, 1) := by decide +kernel
theorem d_P_writeBlock_34 : decode b_P_writeBlock 34 = .ok (.ifCond .lt 13, 3) := by decide +kernel
theorem d_P_writeBlock_37 : decode b_P_writeBlock 37 = .ok (.iload_n 3, 1) := by decide +kernel
theorem d_P_writeBlock_38 : decode b_P_writeBlock 38 = .ok (.aload_n 2, 1) := by decide +kernel
theorem d_P_writeBlock_39 : decode b_P_writeBlock 39 = .ok (.arraylength, 1) := by decide +kernel
theorem d_P_writeBlock_40 : decode b_P_writeBlock 40 = .ok (.sipush 4096, 3) := by decide +kernel
theorem d_P_writeBlock_43 : decode b_P_writeBlock 43 = .ok (.isub, 1) := by decide +kernel
theorem d_P_writeBlock_44 : decode b_P_writeBlock 44 = .ok (.if_icmp .le 5, 3) := by decide +kernel
theorem d_P_writeBlock_47 : decode b_P_writeBlock 47 = .ok (.iconst 0, 1) := by decide +kernel
theorem d_P_writeBlock_48 : decode b_P_writeBlock 48 = .ok (.ireturn, 1) := by decide +kernel
theorem d_P_writeBlock_49 : decode b_P_writeBlock 49 = .ok (.aload_n 2, 1) := by decide +kernel
theorem d_P_writeBlock_50 : decode b_P_writeBlock 50 = .ok (.iload_n 3, 1) := by decide +kernel
theorem d_P_writeBlock_51 : decode b_P_writeBlock 51 = .ok (.aload_n 0, 1) := by decide +kernel
theorem d_P_writeBlock_52 : decode b_P_writeBlock 52 = .ok (.getfield 9, 3) := by decide +kernel
theorem d_P_writeBlock_55 : decode b_P_writeBlock 55 = .ok (.iload 4, 2) := by decide +kernel
theorem d_P_writeBlock_57 : decode b_P_writeBlock 57 = .ok (.sipush 4096, 3) := by decide +kernel
theorem d_P_writeBlock_60 : decode b_P_writeBlock 60 = .ok (.invokestatic 23, 3) := by decide +kernel
theorem d_P_writeBlock_63 : decode b_P_writeBlock 63 = .ok (.aload_n 0, 1) := by decide +kernel
theorem d_P_writeBlock_64 : decode b_P_writeBlock 64 = .ok (.dup, 1) := by decide +kernel
theorem d_P_writeBlock_65 : decode b_P_writeBlock 65 = .ok (.getfield 29, 3) := by decide +kernel
theorem d_P_writeBlock_68 : decode b_P_writeBlock 68 = .ok (.iconst 1, 1) := by decide +kernel
theorem d_P_writeBlock_69 : decode b_P_writeBlock 69 = .ok (.iadd, 1) := by decide +kernel
theorem d_P_writeBlock_70 : decode b_P_writeBlock 70 = .ok (.putfield 29, 3) := by decide +kernel
theorem d_P_writeBlock_73 : decode b_P_writeBlock 73 = .ok (.aload_n 0, 1) := by decide +kernel
theorem d_P_writeBlock_74 : decode b_P_writeBlock 74 = .ok (.getfield 15, 3) := by decide +kernel
theorem d_P_writeBlock_77 : decode b_P_writeBlock 77 = .ok (.ifCond .le 13, 3) := by decide +kernel
theorem d_P_writeBlock_80 : decode b_P_writeBlock 80 = .ok (.aload_n 0, 1) := by decide +kernel
theorem d_P_writeBlock_81 : decode b_P_writeBlock 81 = .ok (.aload_n 0, 1) := by decide +kernel
theorem d_P_writeBlock_82 : decode b_P_writeBlock 82 = .ok (.getfield 15, 3) := by decide +kernel
theorem d_P_writeBlock_85 : decode b_P_writeBlock 85 = .ok (.iconst 1, 1) := by decide +kernel
theorem d_P_writeBlock_86 : decode b_P_writeBlock 86 = .ok (.isub, 1) := by decide +kernel
theorem d_P_writeBlock_87 : decode b_P_writeBlock 87 = .ok (.invokevirtual 32, 3) := by decide +kernel
theorem d_P_writeBlock_90 : decode b_P_writeBlock 90 = .ok (.aload_n 0, 1) := by decide +kernel
theorem d_P_writeBlock_91 : decode b_P_writeBlock 91 = .ok (.getfield 19, 3) := by decide +kernel
theorem d_P_writeBlock_94 : decode b_P_writeBlock 94 = .ok (.ifCond .ne 7, 3) := by decide +kernel
theorem d_P_writeBlock_97 : decode b_P_writeBlock 97 = .ok (.iconst 1, 1) := by decide +kernel
theorem d_P_writeBlock_98 : decode b_P_writeBlock 98 = .ok (.goto 4, 3) := by decide +kernel
theorem d_P_writeBlock_101 : decode b_P_writeBlock 101 = .ok (.iconst 0, 1) := by decide +kernel
theorem d_P_writeBlock_102 : decode b_P_writeBlock 102 = .ok (.ireturn, 1) := by decide +kernel
theorem d_D_forget_0 : decode b_D_forget 0 = .ok (.aload_n 0, 1) := by decide +kernel
theorem d_D_forget_1 : decode b_D_forget 1 = .ok (.getfield 30, 3) := by decide +kernel
theorem d_D_forget_4 : decode b_D_forget 4 = .ok (.iconst 0, 1) := by decide +kernel
theorem d_D_forget_5 : decode b_D_forget 5 = .ok (.putfield 79, 3) := by decide +kernel
theorem d_D_forget_8 : decode b_D_forget 8 = .ok (.aload_n 0, 1) := by decide +kernel
theorem d_D_forget_9 : decode b_D_forget 9 = .ok (.getfield 48, 3) := by decide +kernel
theorem d_D_forget_12 : decode b_D_forget 12 = .ok (.invokevirtual 184, 3) := by decide +kernel
theorem d_D_forget_15 : decode b_D_forget 15 = .ok (.aload_n 0, 1) := by decide +kernel
theorem d_D_forget_16 : decode b_D_forget 16 = .ok (.getfield 34, 3) := by decide +kernel
theorem d_D_forget_19 : decode b_D_forget 19 = .ok (.iconst 0, 1) := by decide +kernel
theorem d_D_forget_20 : decode b_D_forget 20 = .ok (.invokestatic 187, 3) := by decide +kernel
theorem d_D_forget_23 : decode b_D_forget 23 = .ok (.return_, 1) := by decide +kernel
theorem d_M_store_0 : decode b_M_store 0 = .ok (.aload_n 1, 1) := by decide +kernel
theorem d_M_store_1 : decode b_M_store 1 = .ok (.iconst 0, 1) := by decide +kernel
theorem d_M_store_2 : decode b_M_store 2 = .ok (.aload_n 0, 1) := by decide +kernel
theorem d_M_store_3 : decode b_M_store 3 = .ok (.getfield 28, 3) := by decide +kernel
theorem d_M_store_6 : decode b_M_store 6 = .ok (.invokestatic 54, 3) := by decide +kernel
theorem d_M_store_9 : decode b_M_store 9 = .ok (.aload_n 1, 1) := by decide +kernel
theorem d_M_store_10 : decode b_M_store 10 = .ok (.iconst 4, 1) := by decide +kernel
theorem d_M_store_11 : decode b_M_store 11 = .ok (.aload_n 0, 1) := by decide +kernel
theorem d_M_store_12 : decode b_M_store 12 = .ok (.getfield 24, 3) := by decide +kernel
theorem d_M_store_15 : decode b_M_store 15 = .ok (.invokestatic 54, 3) := by decide +kernel
theorem d_M_store_18 : decode b_M_store 18 = .ok (.iconst 0, 1) := by decide +kernel
theorem d_M_store_19 : decode b_M_store 19 = .ok (.istore_n 2, 1) := by decide +kernel
theorem d_M_store_20 : decode b_M_store 20 = .ok (.iload_n 2, 1) := by decide +kernel
theorem d_M_store_21 : decode b_M_store 21 = .ok (.bipush 24, 2) := by decide +kernel
theorem d_M_store_23 : decode b_M_store 23 = .ok (.if_icmp .ge 25, 3) := by decide +kernel
theorem d_M_store_26 : decode b_M_store 26 = .ok (.aload_n 1, 1) := by decide +kernel
theorem d_M_store_27 : decode b_M_store 27 = .ok (.bipush 8, 2) := by decide +kernel
theorem d_M_store_29 : decode b_M_store 29 = .ok (.iconst 4, 1) := by decide +kernel
theorem d_M_store_30 : decode b_M_store 30 = .ok (.iload_n 2, 1) := by decide +kernel
theorem d_M_store_31 : decode b_M_store 31 = .ok (.imul, 1) := by decide +kernel
theorem d_M_store_32 : decode b_M_store 32 = .ok (.iadd, 1) := by decide +kernel
theorem d_M_store_33 : decode b_M_store 33 = .ok (.aload_n 0, 1) := by decide +kernel
theorem d_M_store_34 : decode b_M_store 34 = .ok (.getfield 21, 3) := by decide +kernel
theorem d_M_store_37 : decode b_M_store 37 = .ok (.iload_n 2, 1) := by decide +kernel
theorem d_M_store_38 : decode b_M_store 38 = .ok (.iaload, 1) := by decide +kernel
theorem d_M_store_39 : decode b_M_store 39 = .ok (.invokestatic 54, 3) := by decide +kernel
theorem d_M_store_42 : decode b_M_store 42 = .ok (.iinc 2 1, 3) := by decide +kernel
theorem d_M_store_45 : decode b_M_store 45 = .ok (.goto (-25), 3) := by decide +kernel
theorem d_M_store_48 : decode b_M_store 48 = .ok (.iconst 0, 1) := by decide +kernel
theorem d_M_store_49 : decode b_M_store 49 = .ok (.istore_n 2, 1) := by decide +kernel
theorem d_M_store_50 : decode b_M_store 50 = .ok (.iload_n 2, 1) := by decide +kernel
theorem d_M_store_51 : decode b_M_store 51 = .ok (.aload_n 0, 1) := by decide +kernel
theorem d_M_store_52 : decode b_M_store 52 = .ok (.getfield 24, 3) := by decide +kernel
theorem d_M_store_55 : decode b_M_store 55 = .ok (.if_icmp .ge 62, 3) := by decide +kernel
theorem d_M_store_58 : decode b_M_store 58 = .ok (.iload_n 2, 1) := by decide +kernel
theorem d_M_store_59 : decode b_M_store 59 = .ok (.sipush 200, 3) := by decide +kernel
theorem d_M_store_62 : decode b_M_store 62 = .ok (.if_icmp .ge 55, 3) := by decide +kernel
theorem d_M_store_65 : decode b_M_store 65 = .ok (.bipush 104, 2) := by decide +kernel
theorem d_M_store_67 : decode b_M_store 67 = .ok (.bipush 12, 2) := by decide +kernel
theorem d_M_store_69 : decode b_M_store 69 = .ok (.iload_n 2, 1) := by decide +kernel
theorem d_M_store_70 : decode b_M_store 70 = .ok (.imul, 1) := by decide +kernel
theorem d_M_store_71 : decode b_M_store 71 = .ok (.iadd, 1) := by decide +kernel
theorem d_M_store_72 : decode b_M_store 72 = .ok (.istore_n 3, 1) := by decide +kernel
theorem d_M_store_73 : decode b_M_store 73 = .ok (.aload_n 1, 1) := by decide +kernel
theorem d_M_store_74 : decode b_M_store 74 = .ok (.iload_n 3, 1) := by decide +kernel
theorem d_M_store_75 : decode b_M_store 75 = .ok (.aload_n 0, 1) := by decide +kernel
theorem d_M_store_76 : decode b_M_store 76 = .ok (.getfield 11, 3) := by decide +kernel
theorem d_M_store_79 : decode b_M_store 79 = .ok (.iload_n 2, 1) := by decide +kernel
theorem d_M_store_80 : decode b_M_store 80 = .ok (.iaload, 1) := by decide +kernel
theorem d_M_store_81 : decode b_M_store 81 = .ok (.invokestatic 54, 3) := by decide +kernel
theorem d_M_store_84 : decode b_M_store 84 = .ok (.aload_n 1, 1) := by decide +kernel
theorem d_M_store_85 : decode b_M_store 85 = .ok (.iload_n 3, 1) := by decide +kernel
theorem d_M_store_86 : decode b_M_store 86 = .ok (.iconst 4, 1) := by decide +kernel
theorem d_M_store_87 : decode b_M_store 87 = .ok (.iadd, 1) := by decide +kernel
theorem d_M_store_88 : decode b_M_store 88 = .ok (.aload_n 0, 1) := by decide +kernel
theorem d_M_store_89 : decode b_M_store 89 = .ok (.getfield 15, 3) := by decide +kernel
theorem d_M_store_92 : decode b_M_store 92 = .ok (.iload_n 2, 1) := by decide +kernel
theorem d_M_store_93 : decode b_M_store 93 = .ok (.iaload, 1) := by decide +kernel
theorem d_M_store_94 : decode b_M_store 94 = .ok (.invokestatic 54, 3) := by decide +kernel
theorem d_M_store_97 : decode b_M_store 97 = .ok (.aload_n 1, 1) := by decide +kernel
theorem d_M_store_98 : decode b_M_store 98 = .ok (.iload_n 3, 1) := by decide +kernel
theorem d_M_store_99 : decode b_M_store 99 = .ok (.bipush 8, 2) := by decide +kernel
theorem d_M_store_101 : decode b_M_store 101 = .ok (.iadd, 1) := by decide +kernel
theorem d_M_store_102 : decode b_M_store 102 = .ok (.aload_n 0, 1) := by decide +kernel
theorem d_M_store_103 : decode b_M_store 103 = .ok (.getfield 18, 3) := by decide +kernel
theorem d_M_store_106 : decode b_M_store 106 = .ok (.iload_n 2, 1) := by decide +kernel
theorem d_M_store_107 : decode b_M_store 107 = .ok (.iaload, 1) := by decide +kernel
theorem d_M_store_108 : decode b_M_store 108 = .ok (.invokestatic 54, 3) := by decide +kernel
theorem d_M_store_111 : decode b_M_store 111 = .ok (.iinc 2 1, 3) := by decide +kernel
theorem d_M_store_114 : decode b_M_store 114 = .ok (.goto (-64), 3) := by decide +kernel
theorem d_M_store_117 : decode b_M_store 117 = .ok (.return_, 1) := by decide +kernel
theorem d_M_storeInt_0 : decode b_M_storeInt 0 = .ok (.iload_n 1, 1) := by decide +kernel
theorem d_M_storeInt_1 : decode b_M_storeInt 1 = .ok (.ifCond .lt 11, 3) := by decide +kernel
theorem d_M_storeInt_4 : decode b_M_storeInt 4 = .ok (.iload_n 1, 1) := by decide +kernel
theorem d_M_storeInt_5 : decode b_M_storeInt 5 = .ok (.aload_n 0, 1) := by decide +kernel
theorem d_M_storeInt_6 : decode b_M_storeInt 6 = .ok (.arraylength, 1) := by decide +kernel
theorem d_M_storeInt_7 : decode b_M_storeInt 7 = .ok (.iconst 4, 1) := by decide +kernel
theorem d_M_storeInt_8 : decode b_M_storeInt 8 = .ok (.isub, 1) := by decide +kernel
theorem d_M_storeInt_9 : decode b_M_storeInt 9 = .ok (.if_icmp .le 4, 3) := by decide +kernel
theorem d_M_storeInt_12 : decode b_M_storeInt 12 = .ok (.return_, 1) := by decide +kernel
theorem d_M_storeInt_13 : decode b_M_storeInt 13 = .ok (.aload_n 0, 1) := by decide +kernel
theorem d_M_storeInt_14 : decode b_M_storeInt 14 = .ok (.iload_n 1, 1) := by decide +kernel
theorem d_M_storeInt_15 : decode b_M_storeInt 15 = .ok (.iload_n 2, 1) := by decide +kernel
theorem d_M_storeInt_16 : decode b_M_storeInt 16 = .ok (.bipush 24, 2) := by decide +kernel
theorem d_M_storeInt_18 : decode b_M_storeInt 18 = .ok (.iushr, 1) := by decide +kernel
theorem d_M_storeInt_19 : decode b_M_storeInt 19 = .ok (.i2b, 1) := by decide +kernel
theorem d_M_storeInt_20 : decode b_M_storeInt 20 = .ok (.bastore, 1) := by decide +kernel
theorem d_M_storeInt_21 : decode b_M_storeInt 21 = .ok (.aload_n 0, 1) := by decide +kernel
theorem d_M_storeInt_22 : decode b_M_storeInt 22 = .ok (.iload_n 1, 1) := by decide +kernel
theorem d_M_storeInt_23 : decode b_M_storeInt 23 = .ok (.iconst 1, 1) := by decide +kernel
theorem d_M_storeInt_24 : decode b_M_storeInt 24 = .ok (.iadd, 1) := by decide +kernel
theorem d_M_storeInt_25 : decode b_M_storeInt 25 = .ok (.iload_n 2, 1) := by decide +kernel
theorem d_M_storeInt_26 : decode b_M_storeInt 26 = .ok (.bipush 16, 2) := by decide +kernel
theorem d_M_storeInt_28 : decode b_M_storeInt 28 = .ok (.iushr, 1) := by decide +kernel
theorem d_M_storeInt_29 : decode b_M_storeInt 29 = .ok (.i2b, 1) := by decide +kernel
theorem d_M_storeInt_30 : decode b_M_storeInt 30 = .ok (.bastore, 1) := by decide +kernel
theorem d_M_storeInt_31 : decode b_M_storeInt 31 = .ok (.aload_n 0, 1) := by decide +kernel
theorem d_M_storeInt_32 : decode b_M_storeInt 32 = .ok (.iload_n 1, 1) := by decide +kernel
theorem d_M_storeInt_33 : decode b_M_storeInt 33 = .ok (.iconst 2, 1) := by decide +kernel
theorem d_M_storeInt_34 : decode b_M_storeInt 34 = .ok (.iadd, 1) := by decide +kernel
theorem d_M_storeInt_35 : decode b_M_storeInt 35 = .ok (.iload_n 2, 1) := by decide +kernel
theorem d_M_storeInt_36 : decode b_M_storeInt 36 = .ok (.bipush 8, 2) := by decide +kernel
theorem d_M_storeInt_38 : decode b_M_storeInt 38 = .ok (.iushr, 1) := by decide +kernel
theorem d_M_storeInt_39 : decode b_M_storeInt 39 = .ok (.i2b, 1) := by decide +kernel
theorem d_M_storeInt_40 : decode b_M_storeInt 40 = .ok (.bastore, 1) := by decide +kernel
theorem d_M_storeInt_41 : decode b_M_storeInt 41 = .ok (.aload_n 0, 1) := by decide +kernel
theorem d_M_storeInt_42 : decode b_M_storeInt 42 = .ok (.iload_n 1, 1) := by decide +kernel
theorem d_M_storeInt_43 : decode b_M_storeInt 43 = .ok (.iconst 3, 1) := by decide +kernel
theorem d_M_storeInt_44 : decode b_M_storeInt 44 = .ok (.iadd, 1) := by decide +kernel
theorem d_M_storeInt_45 : decode b_M_storeInt 45 = .ok (.iload_n 2, 1) := by decide +kernel
theorem d_M_storeInt_46 : decode b_M_storeInt 46 = .ok (.i2b, 1) := by decide +kernel
theorem d_M_storeInt_47 : decode b_M_storeInt 47 = .ok (.bastore, 1) := by decide +kernel
theorem d_M_storeInt_48 : decode b_M_storeInt 48 = .ok (.return_, 1) := by decide +kernel
theorem d_L_extent_0 : decode b_L_extent 0 = .ok (.aload_n 3, 1) := by decide +kernel
theorem d_L_extent_1 : decode b_L_extent 1 = .ok (.iconst 0, 1) := by decide +kernel
theorem d_L_extent_2 : decode b_L_extent 2 = .ok (.aload_n 0, 1) := by decide +kernel
theorem d_L_extent_3 : decode b_L_extent 3 = .ok (.iload_n 1, 1) := by decide +kernel
theorem d_L_extent_4 : decode b_L_extent 4 = .ok (.iload_n 2, 1) := by decide +kernel
theorem d_L_extent_5 : decode b_L_extent 5 = .ok (.invokevirtual 36, 3) := by decide +kernel
theorem d_L_extent_8 : decode b_L_extent 8 = .ok (.i2l, 1) := by decide +kernel
theorem d_L_extent_9 : decode b_L_extent 9 = .ok (.lastore, 1) := by decide +kernel
theorem d_L_extent_10 : decode b_L_extent 10 = .ok (.goto 7, 3) := by decide +kernel
theorem d_L_extent_13 : decode b_L_extent 13 = .ok (.astore 4, 2) := by decide +kernel
theorem d_L_extent_15 : decode b_L_extent 15 = .ok (.iconst 1, 1) := by decide +kernel
theorem d_L_extent_16 : decode b_L_extent 16 = .ok (.ireturn, 1) := by decide +kernel
theorem d_L_extent_17 : decode b_L_extent 17 = .ok (.iconst 0, 1) := by decide +kernel
theorem d_L_extent_18 : decode b_L_extent 18 = .ok (.ireturn, 1) := by decide +kernel
theorem d_D_extent_0 : decode b_D_extent 0 = .ok (.aload_n 0, 1) := by decide +kernel
theorem d_D_extent_1 : decode b_D_extent 1 = .ok (.getfield 48, 3) := by decide +kernel
theorem d_D_extent_4 : decode b_D_extent 4 = .ok (.iload_n 1, 1) := by decide +kernel
theorem d_D_extent_5 : decode b_D_extent 5 = .ok (.invokevirtual 115, 3) := by decide +kernel
theorem d_D_extent_8 : decode b_D_extent 8 = .ok (.ifCond .ne 13, 3) := by decide +kernel
theorem d_D_extent_11 : decode b_D_extent 11 = .ok (.new 55, 3) := by decide +kernel
theorem d_D_extent_14 : decode b_D_extent 14 = .ok (.dup, 1) := by decide +kernel
theorem d_D_extent_15 : decode b_D_extent 15 = .ok (.ldc 118, 2) := by decide +kernel
theorem d_D_extent_17 : decode b_D_extent 17 = .ok (.invokespecial 59, 3) := by decide +kernel
theorem d_D_extent_20 : decode b_D_extent 20 = .ok (.athrow, 1) := by decide +kernel
theorem d_D_extent_21 : decode b_D_extent 21 = .ok (.iload_n 2, 1) := by decide +kernel
theorem d_D_extent_22 : decode b_D_extent 22 = .ok (.tableswitch 73 0 3 #[30, 40, 50, 63], 30) := by decide +kernel
theorem d_D_extent_52 : decode b_D_extent 52 = .ok (.aload_n 0, 1) := by decide +kernel
theorem d_D_extent_53 : decode b_D_extent 53 = .ok (.getfield 48, 3) := by decide +kernel
theorem d_D_extent_56 : decode b_D_extent 56 = .ok (.getfield 120, 3) := by decide +kernel
theorem d_D_extent_59 : decode b_D_extent 59 = .ok (.iload_n 1, 1) := by decide +kernel
theorem d_D_extent_60 : decode b_D_extent 60 = .ok (.iaload, 1) := by decide +kernel
theorem d_D_extent_61 : decode b_D_extent 61 = .ok (.ireturn, 1) := by decide +kernel
theorem d_D_extent_62 : decode b_D_extent 62 = .ok (.aload_n 0, 1) := by decide +kernel
theorem d_D_extent_63 : decode b_D_extent 63 = .ok (.getfield 48, 3) := by decide +kernel
theorem d_D_extent_66 : decode b_D_extent 66 = .ok (.getfield 123, 3) := by decide +kernel
theorem d_D_extent_69 : decode b_D_extent 69 = .ok (.iload_n 1, 1) := by decide +kernel
theorem d_D_extent_70 : decode b_D_extent 70 = .ok (.iaload, 1) := by decide +kernel
theorem d_D_extent_71 : decode b_D_extent 71 = .ok (.ireturn, 1) := by decide +kernel
theorem d_D_extent_72 : decode b_D_extent 72 = .ok (.aload_n 0, 1) := by decide +kernel
theorem d_D_extent_73 : decode b_D_extent 73 = .ok (.getfield 48, 3) := by decide +kernel
theorem d_D_extent_76 : decode b_D_extent 76 = .ok (.getfield 126, 3) := by decide +kernel
theorem d_D_extent_79 : decode b_D_extent 79 = .ok (.iload_n 1, 1) := by decide +kernel
theorem d_D_extent_80 : decode b_D_extent 80 = .ok (.iaload, 1) := by decide +kernel
theorem d_D_extent_81 : decode b_D_extent 81 = .ok (.invokestatic 101, 3) := by decide +kernel
theorem d_D_extent_84 : decode b_D_extent 84 = .ok (.ireturn, 1) := by decide +kernel
theorem d_D_extent_85 : decode b_D_extent 85 = .ok (.aload_n 0, 1) := by decide +kernel
theorem d_D_extent_86 : decode b_D_extent 86 = .ok (.getfield 48, 3) := by decide +kernel
theorem d_D_extent_89 : decode b_D_extent 89 = .ok (.getfield 126, 3) := by decide +kernel
theorem d_D_extent_92 : decode b_D_extent 92 = .ok (.iload_n 1, 1) := by decide +kernel
theorem d_D_extent_93 : decode b_D_extent 93 = .ok (.iaload, 1) := by decide +kernel
theorem d_D_extent_94 : decode b_D_extent 94 = .ok (.ireturn, 1) := by decide +kernel
theorem d_D_extent_95 : decode b_D_extent 95 = .ok (.new 55, 3) := by decide +kernel
theorem d_D_extent_98 : decode b_D_extent 98 = .ok (.dup, 1) := by decide +kernel
theorem d_D_extent_99 : decode b_D_extent 99 = .ok (.ldc 129, 2) := by decide +kernel
theorem d_D_extent_101 : decode b_D_extent 101 = .ok (.invokespecial 59, 3) := by decide +kernel
theorem d_D_extent_104 : decode b_D_extent 104 = .ok (.athrow, 1) := by decide +kernel
theorem d_M_holds_0 : decode b_M_holds 0 = .ok (.iload_n 1, 1) := by decide +kernel
theorem d_M_holds_1 : decode b_M_holds 1 = .ok (.ifCond .lt 22, 3) := by decide +kernel
theorem d_M_holds_4 : decode b_M_holds 4 = .ok (.iload_n 1, 1) := by decide +kernel
theorem d_M_holds_5 : decode b_M_holds 5 = .ok (.aload_n 0, 1) := by decide +kernel
theorem d_M_holds_6 : decode b_M_holds 6 = .ok (.getfield 24, 3) := by decide +kernel
theorem d_M_holds_9 : decode b_M_holds 9 = .ok (.if_icmp .ge 14, 3) := by decide +kernel
theorem d_M_holds_12 : decode b_M_holds 12 = .ok (.iload_n 1, 1) := by decide +kernel
theorem d_M_holds_13 : decode b_M_holds 13 = .ok (.sipush 200, 3) := by decide +kernel
theorem d_M_holds_16 : decode b_M_holds 16 = .ok (.if_icmp .ge 7, 3) := by decide +kernel
theorem d_M_holds_19 : decode b_M_holds 19 = .ok (.iconst 1, 1) := by decide +kernel
theorem d_M_holds_20 : decode b_M_holds 20 = .ok (.goto 4, 3) := by decide +kernel
theorem d_M_holds_23 : decode b_M_holds 23 = .ok (.iconst 0, 1) := by decide +kernel
theorem d_M_holds_24 : decode b_M_holds 24 = .ok (.ireturn, 1) := by decide +kernel
theorem d_L_byteAt_0 : decode b_L_byteAt 0 = .ok (.aload_n 3, 1) := by decide +kernel
theorem d_L_byteAt_1 : decode b_L_byteAt 1 = .ok (.iconst 0, 1) := by decide +kernel
theorem d_L_byteAt_2 : decode b_L_byteAt 2 = .ok (.aload_n 0, 1) := by decide +kernel
theorem d_L_byteAt_3 : decode b_L_byteAt 3 = .ok (.iload_n 1, 1) := by decide +kernel
theorem d_L_byteAt_4 : decode b_L_byteAt 4 = .ok (.iload_n 2, 1) := by decide +kernel
theorem d_L_byteAt_5 : decode b_L_byteAt 5 = .ok (.invokevirtual 39, 3) := by decide +kernel
theorem d_L_byteAt_8 : decode b_L_byteAt 8 = .ok (.i2l, 1) := by decide +kernel
theorem d_L_byteAt_9 : decode b_L_byteAt 9 = .ok (.lastore, 1) := by decide +kernel
theorem d_L_byteAt_10 : decode b_L_byteAt 10 = .ok (.goto 7, 3) := by decide +kernel
theorem d_L_byteAt_13 : decode b_L_byteAt 13 = .ok (.astore 4, 2) := by decide +kernel
theorem d_L_byteAt_15 : decode b_L_byteAt 15 = .ok (.iconst 1, 1) := by decide +kernel
theorem d_L_byteAt_16 : decode b_L_byteAt 16 = .ok (.ireturn, 1) := by decide +kernel
theorem d_L_byteAt_17 : decode b_L_byteAt 17 = .ok (.iconst 0, 1) := by decide +kernel
theorem d_L_byteAt_18 : decode b_L_byteAt 18 = .ok (.ireturn, 1) := by decide +kernel
theorem d_D_byteAt_0 : decode b_D_byteAt 0 = .ok (.aload_n 0, 1) := by decide +kernel
theorem d_D_byteAt_1 : decode b_D_byteAt 1 = .ok (.getfield 48, 3) := by decide +kernel
theorem d_D_byteAt_4 : decode b_D_byteAt 4 = .ok (.iload_n 1, 1) := by decide +kernel
theorem d_D_byteAt_5 : decode b_D_byteAt 5 = .ok (.invokevirtual 115, 3) := by decide +kernel
theorem d_D_byteAt_8 : decode b_D_byteAt 8 = .ok (.ifCond .ne 13, 3) := by decide +kernel
theorem d_D_byteAt_11 : decode b_D_byteAt 11 = .ok (.new 55, 3) := by decide +kernel
theorem d_D_byteAt_14 : decode b_D_byteAt 14 = .ok (.dup, 1) := by decide +kernel
theorem d_D_byteAt_15 : decode b_D_byteAt 15 = .ok (.ldc 118, 2) := by decide +kernel
theorem d_D_byteAt_17 : decode b_D_byteAt 17 = .ok (.invokespecial 59, 3) := by decide +kernel
theorem d_D_byteAt_20 : decode b_D_byteAt 20 = .ok (.athrow, 1) := by decide +kernel
theorem d_D_byteAt_21 : decode b_D_byteAt 21 = .ok (.iload_n 2, 1) := by decide +kernel
theorem d_D_byteAt_22 : decode b_D_byteAt 22 = .ok (.ifCond .lt 16, 3) := by decide +kernel
theorem d_D_byteAt_25 : decode b_D_byteAt 25 = .ok (.iload_n 2, 1) := by decide +kernel
theorem d_D_byteAt_26 : decode b_D_byteAt 26 = .ok (.aload_n 0, 1) := by decide +kernel
theorem d_D_byteAt_27 : decode b_D_byteAt 27 = .ok (.getfield 48, 3) := by decide +kernel
theorem d_D_byteAt_30 : decode b_D_byteAt 30 = .ok (.getfield 126, 3) := by decide +kernel
theorem d_D_byteAt_33 : decode b_D_byteAt 33 = .ok (.iload_n 1, 1) := by decide +kernel
theorem d_D_byteAt_34 : decode b_D_byteAt 34 = .ok (.iaload, 1) := by decide +kernel
theorem d_D_byteAt_35 : decode b_D_byteAt 35 = .ok (.if_icmp .lt 13, 3) := by decide +kernel
theorem d_D_byteAt_38 : decode b_D_byteAt 38 = .ok (.new 55, 3) := by decide +kernel
theorem d_D_byteAt_41 : decode b_D_byteAt 41 = .ok (.dup, 1) := by decide +kernel
theorem d_D_byteAt_42 : decode b_D_byteAt 42 = .ok (.ldc 131, 2) := by decide +kernel
theorem d_D_byteAt_44 : decode b_D_byteAt 44 = .ok (.invokespecial 59, 3) := by decide +kernel
theorem d_D_byteAt_47 : decode b_D_byteAt 47 = .ok (.athrow, 1) := by decide +kernel
theorem d_D_byteAt_48 : decode b_D_byteAt 48 = .ok (.aload_n 0, 1) := by decide +kernel
theorem d_D_byteAt_49 : decode b_D_byteAt 49 = .ok (.getfield 23, 3) := by decide +kernel
theorem d_D_byteAt_52 : decode b_D_byteAt 52 = .ok (.aload_n 0, 1) := by decide +kernel
theorem d_D_byteAt_53 : decode b_D_byteAt 53 = .ok (.getfield 48, 3) := by decide +kernel
theorem d_D_byteAt_56 : decode b_D_byteAt 56 = .ok (.getfield 123, 3) := by decide +kernel
theorem d_D_byteAt_59 : decode b_D_byteAt 59 = .ok (.iload_n 1, 1) := by decide +kernel
theorem d_D_byteAt_60 : decode b_D_byteAt 60 = .ok (.iaload, 1) := by decide +kernel
theorem d_D_byteAt_61 : decode b_D_byteAt 61 = .ok (.sipush 4096, 3) := by decide +kernel
theorem d_D_byteAt_64 : decode b_D_byteAt 64 = .ok (.imul, 1) := by decide +kernel
theorem d_D_byteAt_65 : decode b_D_byteAt 65 = .ok (.iload_n 2, 1) := by decide +kernel
theorem d_D_byteAt_66 : decode b_D_byteAt 66 = .ok (.iadd, 1) := by decide +kernel
theorem d_D_byteAt_67 : decode b_D_byteAt 67 = .ok (.invokevirtual 133, 3) := by decide +kernel
theorem d_D_byteAt_70 : decode b_D_byteAt 70 = .ok (.ireturn, 1) := by decide +kernel
theorem d_L_crash_0 : decode b_L_crash 0 = .ok (.aload_n 0, 1) := by decide +kernel
theorem d_L_crash_1 : decode b_L_crash 1 = .ok (.iload_n 1, 1) := by decide +kernel
theorem d_L_crash_2 : decode b_L_crash 2 = .ok (.invokevirtual 42, 3) := by decide +kernel
theorem d_L_crash_5 : decode b_L_crash 5 = .ok (.goto 9, 3) := by decide +kernel
theorem d_L_crash_8 : decode b_L_crash 8 = .ok (.astore_n 2, 1) := by decide +kernel
theorem d_L_crash_9 : decode b_L_crash 9 = .ok (.iconst 1, 1) := by decide +kernel
theorem d_L_crash_10 : decode b_L_crash 10 = .ok (.ireturn, 1) := by decide +kernel
theorem d_L_crash_11 : decode b_L_crash 11 = .ok (.astore_n 2, 1) := by decide +kernel
theorem d_L_crash_12 : decode b_L_crash 12 = .ok (.iconst 2, 1) := by decide +kernel
theorem d_L_crash_13 : decode b_L_crash 13 = .ok (.ireturn, 1) := by decide +kernel
theorem d_L_crash_14 : decode b_L_crash 14 = .ok (.iconst 0, 1) := by decide +kernel
theorem d_L_crash_15 : decode b_L_crash 15 = .ok (.ireturn, 1) := by decide +kernel
theorem d_D_crash_0 : decode b_D_crash 0 = .ok (.iload_n 1, 1) := by decide +kernel
theorem d_D_crash_1 : decode b_D_crash 1 = .ok (.iconst (-1), 1) := by decide +kernel
theorem d_D_crash_2 : decode b_D_crash 2 = .ok (.if_icmp .lt 10, 3) := by decide +kernel
theorem d_D_crash_5 : decode b_D_crash 5 = .ok (.iload_n 1, 1) := by decide +kernel
theorem d_D_crash_6 : decode b_D_crash 6 = .ok (.sipush 1000, 3) := by decide +kernel
theorem d_D_crash_9 : decode b_D_crash 9 = .ok (.if_icmp .le 13, 3) := by decide +kernel
theorem d_D_crash_12 : decode b_D_crash 12 = .ok (.new 55, 3) := by decide +kernel
theorem d_D_crash_15 : decode b_D_crash 15 = .ok (.dup, 1) := by decide +kernel
theorem d_D_crash_16 : decode b_D_crash 16 = .ok (.ldc 136, 2) := by decide +kernel
theorem d_D_crash_18 : decode b_D_crash 18 = .ok (.invokespecial 59, 3) := by decide +kernel
theorem d_D_crash_21 : decode b_D_crash 21 = .ok (.athrow, 1) := by decide +kernel
theorem d_D_crash_22 : decode b_D_crash 22 = .ok (.aload_n 0, 1) := by decide +kernel
theorem d_D_crash_23 : decode b_D_crash 23 = .ok (.getfield 23, 3) := by decide +kernel
theorem d_D_crash_26 : decode b_D_crash 26 = .ok (.getfield 62, 3) := by decide +kernel
theorem d_D_crash_29 : decode b_D_crash 29 = .ok (.ifCond .eq 13, 3) := by decide +kernel
theorem d_D_crash_32 : decode b_D_crash 32 = .ok (.new 70, 3) := by decide +kernel
theorem d_D_crash_35 : decode b_D_crash 35 = .ok (.dup, 1) := by decide +kernel
theorem d_D_crash_36 : decode b_D_crash 36 = .ok (.ldc 86, 2) := by decide +kernel
theorem d_D_crash_38 : decode b_D_crash 38 = .ok (.invokespecial 74, 3) := by decide +kernel
theorem d_D_crash_41 : decode b_D_crash 41 = .ok (.athrow, 1) := by decide +kernel
theorem d_D_crash_42 : decode b_D_crash 42 = .ok (.aload_n 0, 1) := by decide +kernel
theorem d_D_crash_43 : decode b_D_crash 43 = .ok (.getfield 23, 3) := by decide +kernel
theorem d_D_crash_46 : decode b_D_crash 46 = .ok (.iload_n 1, 1) := by decide +kernel
theorem d_D_crash_47 : decode b_D_crash 47 = .ok (.invokevirtual 138, 3) := by decide +kernel
theorem d_D_crash_50 : decode b_D_crash 50 = .ok (.aload_n 0, 1) := by decide +kernel
theorem d_D_crash_51 : decode b_D_crash 51 = .ok (.getfield 23, 3) := by decide +kernel
theorem d_D_crash_54 : decode b_D_crash 54 = .ok (.getfield 62, 3) := by decide +kernel
theorem d_D_crash_57 : decode b_D_crash 57 = .ok (.ifCond .eq 7, 3) := by decide +kernel
theorem d_D_crash_60 : decode b_D_crash 60 = .ok (.aload_n 0, 1) := by decide +kernel
theorem d_D_crash_61 : decode b_D_crash 61 = .ok (.invokevirtual 141, 3) := by decide +kernel
theorem d_D_crash_64 : decode b_D_crash 64 = .ok (.return_, 1) := by decide +kernel
theorem d_L_count_0 : decode b_L_count 0 = .ok (.aload_n 2, 1) := by decide +kernel
theorem d_L_count_1 : decode b_L_count 1 = .ok (.iconst 0, 1) := by decide +kernel
theorem d_L_count_2 : decode b_L_count 2 = .ok (.aload_n 0, 1) := by decide +kernel
theorem d_L_count_3 : decode b_L_count 3 = .ok (.iload_n 1, 1) := by decide +kernel
theorem d_L_count_4 : decode b_L_count 4 = .ok (.invokevirtual 46, 3) := by decide +kernel
theorem d_L_count_7 : decode b_L_count 7 = .ok (.i2l, 1) := by decide +kernel
theorem d_L_count_8 : decode b_L_count 8 = .ok (.lastore, 1) := by decide +kernel
theorem d_L_count_9 : decode b_L_count 9 = .ok (.goto 9, 3) := by decide +kernel
theorem d_L_count_12 : decode b_L_count 12 = .ok (.astore_n 3, 1) := by decide +kernel
theorem d_L_count_13 : decode b_L_count 13 = .ok (.iconst 1, 1) := by decide +kernel
theorem d_L_count_14 : decode b_L_count 14 = .ok (.ireturn, 1) := by decide +kernel
theorem d_L_count_15 : decode b_L_count 15 = .ok (.astore_n 3, 1) := by decide +kernel
theorem d_L_count_16 : decode b_L_count 16 = .ok (.iconst 2, 1) := by decide +kernel
theorem d_L_count_17 : decode b_L_count 17 = .ok (.ireturn, 1) := by decide +kernel
theorem d_L_count_18 : decode b_L_count 18 = .ok (.iconst 0, 1) := by decide +kernel
theorem d_L_count_19 : decode b_L_count 19 = .ok (.ireturn, 1) := by decide +kernel
theorem d_D_count_0 : decode b_D_count 0 = .ok (.iload_n 1, 1) := by decide +kernel
theorem d_D_count_1 : decode b_D_count 1 = .ok (.ifCond .lt 8, 3) := by decide +kernel
theorem d_D_count_4 : decode b_D_count 4 = .ok (.iload_n 1, 1) := by decide +kernel
theorem d_D_count_5 : decode b_D_count 5 = .ok (.iconst 3, 1) := by decide +kernel
theorem d_D_count_6 : decode b_D_count 6 = .ok (.if_icmp .le 13, 3) := by decide +kernel
theorem d_D_count_9 : decode b_D_count 9 = .ok (.new 55, 3) := by decide +kernel
theorem d_D_count_12 : decode b_D_count 12 = .ok (.dup, 1) := by decide +kernel
theorem d_D_count_13 : decode b_D_count 13 = .ok (.ldc 129, 2) := by decide +kernel
theorem d_D_count_15 : decode b_D_count 15 = .ok (.invokespecial 59, 3) := by decide +kernel
theorem d_D_count_18 : decode b_D_count 18 = .ok (.athrow, 1) := by decide +kernel
theorem d_D_count_19 : decode b_D_count 19 = .ok (.aload_n 0, 1) := by decide +kernel
theorem d_D_count_20 : decode b_D_count 20 = .ok (.getfield 23, 3) := by decide +kernel
theorem d_D_count_23 : decode b_D_count 23 = .ok (.getfield 62, 3) := by decide +kernel
theorem d_D_count_26 : decode b_D_count 26 = .ok (.ifCond .eq 13, 3) := by decide +kernel
theorem d_D_count_29 : decode b_D_count 29 = .ok (.new 70, 3) := by decide +kernel
theorem d_D_count_32 : decode b_D_count 32 = .ok (.dup, 1) := by decide +kernel
theorem d_D_count_33 : decode b_D_count 33 = .ok (.ldc 86, 2) := by decide +kernel
theorem d_D_count_35 : decode b_D_count 35 = .ok (.invokespecial 74, 3) := by decide +kernel
theorem d_D_count_38 : decode b_D_count 38 = .ok (.athrow, 1) := by decide +kernel
theorem d_D_count_39 : decode b_D_count 39 = .ok (.iload_n 1, 1) := by decide +kernel
theorem d_D_count_40 : decode b_D_count 40 = .ok (.tableswitch 49 0 2 #[28, 36, 41], 28) := by decide +kernel
theorem d_D_count_68 : decode b_D_count 68 = .ok (.aload_n 0, 1) := by decide +kernel
theorem d_D_count_69 : decode b_D_count 69 = .ok (.getfield 48, 3) := by decide +kernel
theorem d_D_count_72 : decode b_D_count 72 = .ok (.getfield 160, 3) := by decide +kernel
theorem d_D_count_75 : decode b_D_count 75 = .ok (.ireturn, 1) := by decide +kernel
theorem d_D_count_76 : decode b_D_count 76 = .ok (.aload_n 0, 1) := by decide +kernel
theorem d_D_count_77 : decode b_D_count 77 = .ok (.invokevirtual 166, 3) := by decide +kernel
theorem d_D_count_80 : decode b_D_count 80 = .ok (.ireturn, 1) := by decide +kernel
theorem d_D_count_81 : decode b_D_count 81 = .ok (.aload_n 0, 1) := by decide +kernel
theorem d_D_count_82 : decode b_D_count 82 = .ok (.getfield 30, 3) := by decide +kernel
theorem d_D_count_85 : decode b_D_count 85 = .ok (.getfield 79, 3) := by decide +kernel
theorem d_D_count_88 : decode b_D_count 88 = .ok (.ireturn, 1) := by decide +kernel
theorem d_D_count_89 : decode b_D_count 89 = .ok (.aload_n 0, 1) := by decide +kernel
theorem d_D_count_90 : decode b_D_count 90 = .ok (.getfield 48, 3) := by decide +kernel
theorem d_D_count_93 : decode b_D_count 93 = .ok (.getfield 148, 3) := by decide +kernel
theorem d_D_count_96 : decode b_D_count 96 = .ok (.ireturn, 1) := by decide +kernel
theorem d_D_freeBlocks_0 : decode b_D_freeBlocks 0 = .ok (.aload_n 0, 1) := by decide +kernel
theorem d_D_freeBlocks_1 : decode b_D_freeBlocks 1 = .ok (.getfield 48, 3) := by decide +kernel
theorem d_D_freeBlocks_4 : decode b_D_freeBlocks 4 = .ok (.aload_n 0, 1) := by decide +kernel
theorem d_D_freeBlocks_5 : decode b_D_freeBlocks 5 = .ok (.getfield 42, 3) := by decide +kernel
theorem d_D_freeBlocks_8 : decode b_D_freeBlocks 8 = .ok (.invokevirtual 170, 3) := by decide +kernel
theorem d_D_freeBlocks_11 : decode b_D_freeBlocks 11 = .ok (.iconst 0, 1) := by decide +kernel
theorem d_D_freeBlocks_12 : decode b_D_freeBlocks 12 = .ok (.istore_n 1, 1) := by decide +kernel
theorem d_D_freeBlocks_13 : decode b_D_freeBlocks 13 = .ok (.iconst 2, 1) := by decide +kernel
theorem d_D_freeBlocks_14 : decode b_D_freeBlocks 14 = .ok (.istore_n 2, 1) := by decide +kernel
theorem d_D_freeBlocks_15 : decode b_D_freeBlocks 15 = .ok (.iload_n 2, 1) := by decide +kernel
theorem d_D_freeBlocks_16 : decode b_D_freeBlocks 16 = .ok (.aload_n 0, 1) := by decide +kernel
theorem d_D_freeBlocks_17 : decode b_D_freeBlocks 17 = .ok (.getfield 42, 3) := by decide +kernel
theorem d_D_freeBlocks_20 : decode b_D_freeBlocks 20 = .ok (.arraylength, 1) := by decide +kernel
theorem d_D_freeBlocks_21 : decode b_D_freeBlocks 21 = .ok (.if_icmp .ge 21, 3) := by decide +kernel
theorem d_D_freeBlocks_24 : decode b_D_freeBlocks 24 = .ok (.aload_n 0, 1) := by decide +kernel
theorem d_D_freeBlocks_25 : decode b_D_freeBlocks 25 = .ok (.getfield 42, 3) := by decide +kernel
theorem d_D_freeBlocks_28 : decode b_D_freeBlocks 28 = .ok (.iload_n 2, 1) := by decide +kernel
theorem d_D_freeBlocks_29 : decode b_D_freeBlocks 29 = .ok (.iaload, 1) := by decide +kernel
theorem d_D_freeBlocks_30 : decode b_D_freeBlocks 30 = .ok (.ifCond .ne 6, 3) := by decide +kernel
theorem d_D_freeBlocks_33 : decode b_D_freeBlocks 33 = .ok (.iinc 1 1, 3) := by decide +kernel
theorem d_D_freeBlocks_36 : decode b_D_freeBlocks 36 = .ok (.iinc 2 1, 3) := by decide +kernel
theorem d_D_freeBlocks_39 : decode b_D_freeBlocks 39 = .ok (.goto (-24), 3) := by decide +kernel
theorem d_D_freeBlocks_42 : decode b_D_freeBlocks 42 = .ok (.iload_n 1, 1) := by decide +kernel
theorem d_D_freeBlocks_43 : decode b_D_freeBlocks 43 = .ok (.ireturn, 1) := by decide +kernel
theorem d_L_doubled_0 : decode b_L_doubled 0 = .ok (.aload_n 1, 1) := by decide +kernel
theorem d_L_doubled_1 : decode b_L_doubled 1 = .ok (.iconst 0, 1) := by decide +kernel
theorem d_L_doubled_2 : decode b_L_doubled 2 = .ok (.aload_n 0, 1) := by decide +kernel
theorem d_L_doubled_3 : decode b_L_doubled 3 = .ok (.invokevirtual 49, 3) := by decide +kernel
theorem d_L_doubled_6 : decode b_L_doubled 6 = .ok (.i2l, 1) := by decide +kernel
theorem d_L_doubled_7 : decode b_L_doubled 7 = .ok (.lastore, 1) := by decide +kernel
theorem d_L_doubled_8 : decode b_L_doubled 8 = .ok (.goto 6, 3) := by decide +kernel
theorem d_L_doubled_11 : decode b_L_doubled 11 = .ok (.astore_n 2, 1) := by decide +kernel
theorem d_L_doubled_12 : decode b_L_doubled 12 = .ok (.iconst 1, 1) := by decide +kernel
theorem d_L_doubled_13 : decode b_L_doubled 13 = .ok (.ireturn, 1) := by decide +kernel
theorem d_L_doubled_14 : decode b_L_doubled 14 = .ok (.iconst 0, 1) := by decide +kernel
theorem d_L_doubled_15 : decode b_L_doubled 15 = .ok (.ireturn, 1) := by decide +kernel
theorem d_D_doubled_0 : decode b_D_doubled 0 = .ok (.aload_n 0, 1) := by decide +kernel
theorem d_D_doubled_1 : decode b_D_doubled 1 = .ok (.getfield 23, 3) := by decide +kernel
theorem d_D_doubled_4 : decode b_D_doubled 4 = .ok (.getfield 62, 3) := by decide +kernel
theorem d_D_doubled_7 : decode b_D_doubled 7 = .ok (.ifCond .eq 13, 3) := by decide +kernel
theorem d_D_doubled_10 : decode b_D_doubled 10 = .ok (.new 70, 3) := by decide +kernel
theorem d_D_doubled_13 : decode b_D_doubled 13 = .ok (.dup, 1) := by decide +kernel
theorem d_D_doubled_14 : decode b_D_doubled 14 = .ok (.ldc 86, 2) := by decide +kernel
theorem d_D_doubled_16 : decode b_D_doubled 16 = .ok (.invokespecial 74, 3) := by decide +kernel
theorem d_D_doubled_19 : decode b_D_doubled 19 = .ok (.athrow, 1) := by decide +kernel
theorem d_D_doubled_20 : decode b_D_doubled 20 = .ok (.aload_n 0, 1) := by decide +kernel
theorem d_D_doubled_21 : decode b_D_doubled 21 = .ok (.getfield 48, 3) := by decide +kernel
theorem d_D_doubled_24 : decode b_D_doubled 24 = .ok (.aload_n 0, 1) := by decide +kernel
theorem d_D_doubled_25 : decode b_D_doubled 25 = .ok (.getfield 42, 3) := by decide +kernel
theorem d_D_doubled_28 : decode b_D_doubled 28 = .ok (.invokevirtual 170, 3) := by decide +kernel
theorem d_D_doubled_31 : decode b_D_doubled 31 = .ok (.iconst 0, 1) := by decide +kernel
theorem d_D_doubled_32 : decode b_D_doubled 32 = .ok (.istore_n 1, 1) := by decide +kernel
theorem d_D_doubled_33 : decode b_D_doubled 33 = .ok (.iconst 0, 1) := by decide +kernel
theorem d_D_doubled_34 : decode b_D_doubled 34 = .ok (.istore_n 2, 1) := by decide +kernel
theorem d_D_doubled_35 : decode b_D_doubled 35 = .ok (.iload_n 2, 1) := by decide +kernel
theorem d_D_doubled_36 : decode b_D_doubled 36 = .ok (.aload_n 0, 1) := by decide +kernel
theorem d_D_doubled_37 : decode b_D_doubled 37 = .ok (.getfield 42, 3) := by decide +kernel
theorem d_D_doubled_40 : decode b_D_doubled 40 = .ok (.arraylength, 1) := by decide +kernel
theorem d_D_doubled_41 : decode b_D_doubled 41 = .ok (.if_icmp .ge 24, 3) := by decide +kernel
theorem d_D_doubled_44 : decode b_D_doubled 44 = .ok (.iload_n 1, 1) := by decide +kernel
theorem d_D_doubled_45 : decode b_D_doubled 45 = .ok (.iconst 0, 1) := by decide +kernel
theorem d_D_doubled_46 : decode b_D_doubled 46 = .ok (.aload_n 0, 1) := by decide +kernel
theorem d_D_doubled_47 : decode b_D_doubled 47 = .ok (.getfield 42, 3) := by decide +kernel
theorem d_D_doubled_50 : decode b_D_doubled 50 = .ok (.iload_n 2, 1) := by decide +kernel
theorem d_D_doubled_51 : decode b_D_doubled 51 = .ok (.iaload, 1) := by decide +kernel
theorem d_D_doubled_52 : decode b_D_doubled 52 = .ok (.iconst 1, 1) := by decide +kernel
theorem d_D_doubled_53 : decode b_D_doubled 53 = .ok (.isub, 1) := by decide +kernel
theorem d_D_doubled_54 : decode b_D_doubled 54 = .ok (.invokestatic 15, 3) := by decide +kernel
theorem d_D_doubled_57 : decode b_D_doubled 57 = .ok (.iadd, 1) := by decide +kernel
theorem d_D_doubled_58 : decode b_D_doubled 58 = .ok (.istore_n 1, 1) := by decide +kernel
theorem d_D_doubled_59 : decode b_D_doubled 59 = .ok (.iinc 2 1, 3) := by decide +kernel
theorem d_D_doubled_62 : decode b_D_doubled 62 = .ok (.goto (-27), 3) := by decide +kernel
theorem d_D_doubled_65 : decode b_D_doubled 65 = .ok (.iload_n 1, 1) := by decide +kernel
theorem d_D_doubled_66 : decode b_D_doubled 66 = .ok (.ireturn, 1) := by decide +kernel
theorem d_K_init_0 : decode b_K_init 0 = .ok (.aload_n 0, 1) := by decide +kernel
theorem d_K_init_1 : decode b_K_init 1 = .ok (.invokespecial 1, 3) := by decide +kernel
theorem d_K_init_4 : decode b_K_init 4 = .ok (.aload_n 0, 1) := by decide +kernel
theorem d_K_init_5 : decode b_K_init 5 = .ok (.iconst (-1), 1) := by decide +kernel
theorem d_K_init_6 : decode b_K_init 6 = .ok (.putfield 7, 3) := by decide +kernel
theorem d_K_init_9 : decode b_K_init 9 = .ok (.aload_n 0, 1) := by decide +kernel
theorem d_K_init_10 : decode b_K_init 10 = .ok (.sipush 200, 3) := by decide +kernel
theorem d_K_init_13 : decode b_K_init 13 = .ok (.newarray .int, 2) := by decide +kernel
theorem d_K_init_15 : decode b_K_init 15 = .ok (.putfield 13, 3) := by decide +kernel
theorem d_K_init_18 : decode b_K_init 18 = .ok (.aload_n 0, 1) := by decide +kernel
theorem d_K_init_19 : decode b_K_init 19 = .ok (.sipush 200, 3) := by decide +kernel
theorem d_K_init_22 : decode b_K_init 22 = .ok (.newarray .int, 2) := by decide +kernel
theorem d_K_init_24 : decode b_K_init 24 = .ok (.putfield 17, 3) := by decide +kernel
theorem d_K_init_27 : decode b_K_init 27 = .ok (.aload_n 0, 1) := by decide +kernel
theorem d_K_init_28 : decode b_K_init 28 = .ok (.sipush 200, 3) := by decide +kernel
theorem d_K_init_31 : decode b_K_init 31 = .ok (.newarray .int, 2) := by decide +kernel
theorem d_K_init_33 : decode b_K_init 33 = .ok (.putfield 20, 3) := by decide +kernel
theorem d_K_init_36 : decode b_K_init 36 = .ok (.aload_n 0, 1) := by decide +kernel
theorem d_K_init_37 : decode b_K_init 37 = .ok (.sipush 200, 3) := by decide +kernel
theorem d_K_init_40 : decode b_K_init 40 = .ok (.newarray .int, 2) := by decide +kernel
theorem d_K_init_42 : decode b_K_init 42 = .ok (.putfield 23, 3) := by decide +kernel
theorem d_K_init_45 : decode b_K_init 45 = .ok (.aload_n 0, 1) := by decide +kernel
theorem d_K_init_46 : decode b_K_init 46 = .ok (.bipush 24, 2) := by decide +kernel
theorem d_K_init_48 : decode b_K_init 48 = .ok (.newarray .int, 2) := by decide +kernel
theorem d_K_init_50 : decode b_K_init 50 = .ok (.putfield 26, 3) := by decide +kernel
theorem d_K_init_53 : decode b_K_init 53 = .ok (.aload_n 0, 1) := by decide +kernel
theorem d_K_init_54 : decode b_K_init 54 = .ok (.ldc 29, 2) := by decide +kernel
theorem d_K_init_56 : decode b_K_init 56 = .ok (.newarray .byte, 2) := by decide +kernel
theorem d_K_init_58 : decode b_K_init 58 = .ok (.putfield 30, 3) := by decide +kernel
theorem d_K_init_61 : decode b_K_init 61 = .ok (.aload_n 0, 1) := by decide +kernel
theorem d_K_init_62 : decode b_K_init 62 = .ok (.sipush 128, 3) := by decide +kernel
theorem d_K_init_65 : decode b_K_init 65 = .ok (.newarray .boolean, 2) := by decide +kernel
theorem d_K_init_67 : decode b_K_init 67 = .ok (.putfield 34, 3) := by decide +kernel
theorem d_K_init_70 : decode b_K_init 70 = .ok (.aload_n 0, 1) := by decide +kernel
theorem d_K_init_71 : decode b_K_init 71 = .ok (.bipush 24, 2) := by decide +kernel
theorem d_K_init_73 : decode b_K_init 73 = .ok (.newarray .int, 2) := by decide +kernel
theorem d_K_init_75 : decode b_K_init 75 = .ok (.putfield 38, 3) := by decide +kernel
theorem d_K_init_78 : decode b_K_init 78 = .ok (.aload_n 0, 1) := by decide +kernel
theorem d_K_init_79 : decode b_K_init 79 = .ok (.ldc 29, 2) := by decide +kernel
theorem d_K_init_81 : decode b_K_init 81 = .ok (.newarray .byte, 2) := by decide +kernel
theorem d_K_init_83 : decode b_K_init 83 = .ok (.putfield 41, 3) := by decide +kernel
theorem d_K_init_86 : decode b_K_init 86 = .ok (.aload_n 0, 1) := by decide +kernel
theorem d_K_init_87 : decode b_K_init 87 = .ok (.iload_n 1, 1) := by decide +kernel
theorem d_K_init_88 : decode b_K_init 88 = .ok (.bipush 8, 2) := by decide +kernel
theorem d_K_init_90 : decode b_K_init 90 = .ok (.if_icmp .ge 8, 3) := by decide +kernel
theorem d_K_init_93 : decode b_K_init 93 = .ok (.bipush 8, 2) := by decide +kernel
theorem d_K_init_95 : decode b_K_init 95 = .ok (.goto 17, 3) := by decide +kernel
theorem d_K_init_98 : decode b_K_init 98 = .ok (.iload_n 1, 1) := by decide +kernel
theorem d_K_init_99 : decode b_K_init 99 = .ok (.sipush 128, 3) := by decide +kernel
theorem d_K_init_102 : decode b_K_init 102 = .ok (.if_icmp .le 9, 3) := by decide +kernel
theorem d_K_init_105 : decode b_K_init 105 = .ok (.sipush 128, 3) := by decide +kernel
theorem d_K_init_108 : decode b_K_init 108 = .ok (.goto 4, 3) := by decide +kernel
theorem d_K_init_111 : decode b_K_init 111 = .ok (.iload_n 1, 1) := by decide +kernel
theorem d_K_init_112 : decode b_K_init 112 = .ok (.putfield 44, 3) := by decide +kernel
theorem d_K_init_115 : decode b_K_init 115 = .ok (.return_, 1) := by decide +kernel
theorem d_K_thrown_0 : decode b_K_thrown 0 = .ok (.aload_n 0, 1) := by decide +kernel
theorem d_K_thrown_1 : decode b_K_thrown 1 = .ok (.getfield 47, 3) := by decide +kernel
theorem d_K_thrown_4 : decode b_K_thrown 4 = .ok (.ireturn, 1) := by decide +kernel
theorem d_K_put_0 : decode b_K_put 0 = .ok (.aload_n 0, 1) := by decide +kernel
theorem d_K_put_1 : decode b_K_put 1 = .ok (.iload_n 3, 1) := by decide +kernel
theorem d_K_put_2 : decode b_K_put 2 = .ok (.iconst 1, 1) := by decide +kernel
theorem d_K_put_3 : decode b_K_put 3 = .ok (.if_icmp .lt 9, 3) := by decide +kernel
theorem d_K_put_6 : decode b_K_put 6 = .ok (.iload_n 3, 1) := by decide +kernel
theorem d_K_put_7 : decode b_K_put 7 = .ok (.bipush 8, 2) := by decide +kernel
theorem d_K_put_9 : decode b_K_put 9 = .ok (.if_icmp .le 7, 3) := by decide +kernel
theorem d_K_put_12 : decode b_K_put 12 = .ok (.iconst 1, 1) := by decide +kernel
theorem d_K_put_13 : decode b_K_put 13 = .ok (.goto 32, 3) := by decide +kernel
theorem d_K_put_16 : decode b_K_put 16 = .ok (.aload_n 0, 1) := by decide +kernel
theorem d_K_put_17 : decode b_K_put 17 = .ok (.getfield 50, 3) := by decide +kernel
theorem d_K_put_20 : decode b_K_put 20 = .ok (.ifCond .ne 20, 3) := by decide +kernel
theorem d_K_put_23 : decode b_K_put 23 = .ok (.aload_n 0, 1) := by decide +kernel
theorem d_K_put_24 : decode b_K_put 24 = .ok (.getfield 54, 3) := by decide +kernel
theorem d_K_put_27 : decode b_K_put 27 = .ok (.iload_n 3, 1) := by decide +kernel
theorem d_K_put_28 : decode b_K_put 28 = .ok (.iadd, 1) := by decide +kernel
theorem d_K_put_29 : decode b_K_put 29 = .ok (.sipush 4096, 3) := by decide +kernel
theorem d_K_put_32 : decode b_K_put 32 = .ok (.aload_n 0, 1) := by decide +kernel
theorem d_K_put_33 : decode b_K_put 33 = .ok (.getfield 44, 3) := by decide +kernel
theorem d_K_put_36 : decode b_K_put 36 = .ok (.imul, 1) := by decide +kernel
theorem d_K_put_37 : decode b_K_put 37 = .ok (.if_icmp .le 7, 3) := by decide +kernel
theorem d_K_put_40 : decode b_K_put 40 = .ok (.iconst 2, 1) := by decide +kernel
theorem d_K_put_41 : decode b_K_put 41 = .ok (.goto 4, 3) := by decide +kernel
theorem d_K_put_44 : decode b_K_put 44 = .ok (.iconst 0, 1) := by decide +kernel
theorem d_K_put_45 : decode b_K_put 45 = .ok (.putfield 47, 3) := by decide +kernel
theorem d_K_put_48 : decode b_K_put 48 = .ok (.aload_n 0, 1) := by decide +kernel
theorem d_K_put_49 : decode b_K_put 49 = .ok (.getfield 47, 3) := by decide +kernel
theorem d_K_put_52 : decode b_K_put 52 = .ok (.ifCond .le 5, 3) := by decide +kernel
theorem d_K_put_55 : decode b_K_put 55 = .ok (.iconst 0, 1) := by decide +kernel
theorem d_K_put_56 : decode b_K_put 56 = .ok (.ireturn, 1) := by decide +kernel
theorem d_K_put_57 : decode b_K_put 57 = .ok (.iload_n 3, 1) := by decide +kernel
theorem d_K_put_58 : decode b_K_put 58 = .ok (.iconst 1, 1) := by decide +kernel
theorem d_K_put_59 : decode b_K_put 59 = .ok (.isub, 1) := by decide +kernel
theorem d_K_put_60 : decode b_K_put 60 = .ok (.istore 4, 2) := by decide +kernel
theorem d_K_put_62 : decode b_K_put 62 = .ok (.iload 4, 2) := by decide +kernel
theorem d_K_put_64 : decode b_K_put 64 = .ok (.ifCond .lt 37, 3) := by decide +kernel
theorem d_K_put_67 : decode b_K_put 67 = .ok (.aload_n 0, 1) := by decide +kernel
theorem d_K_put_68 : decode b_K_put 68 = .ok (.getfield 41, 3) := by decide +kernel
theorem d_K_put_71 : decode b_K_put 71 = .ok (.aload_n 0, 1) := by decide +kernel
theorem d_K_put_72 : decode b_K_put 72 = .ok (.getfield 54, 3) := by decide +kernel
theorem d_K_put_75 : decode b_K_put 75 = .ok (.lload_n 1, 1) := by decide +kernel
theorem d_K_put_76 : decode b_K_put 76 = .ok (.bipush 8, 2) := by decide +kernel
theorem d_K_put_78 : decode b_K_put 78 = .ok (.iload 4, 2) := by decide +kernel
theorem d_K_put_80 : decode b_K_put 80 = .ok (.imul, 1) := by decide +kernel
theorem d_K_put_81 : decode b_K_put 81 = .ok (.lshr, 1) := by decide +kernel
theorem d_K_put_82 : decode b_K_put 82 = .ok (.l2i, 1) := by decide +kernel
theorem d_K_put_83 : decode b_K_put 83 = .ok (.i2b, 1) := by decide +kernel
theorem d_K_put_84 : decode b_K_put 84 = .ok (.bastore, 1) := by decide +kernel
theorem d_K_put_85 : decode b_K_put 85 = .ok (.aload_n 0, 1) := by decide +kernel
theorem d_K_put_86 : decode b_K_put 86 = .ok (.dup, 1) := by decide +kernel
theorem d_K_put_87 : decode b_K_put 87 = .ok (.getfield 54, 3) := by decide +kernel
theorem d_K_put_90 : decode b_K_put 90 = .ok (.iconst 1, 1) := by decide +kernel
theorem d_K_put_91 : decode b_K_put 91 = .ok (.iadd, 1) := by decide +kernel
theorem d_K_put_92 : decode b_K_put 92 = .ok (.putfield 54, 3) := by decide +kernel
theorem d_K_put_95 : decode b_K_put 95 = .ok (.iinc 4 (-1), 3) := by decide +kernel
theorem d_K_put_98 : decode b_K_put 98 = .ok (.goto (-36), 3) := by decide +kernel
theorem d_K_put_101 : decode b_K_put 101 = .ok (.aload_n 0, 1) := by decide +kernel
theorem d_K_put_102 : decode b_K_put 102 = .ok (.getfield 54, 3) := by decide +kernel
theorem d_K_put_105 : decode b_K_put 105 = .ok (.ireturn, 1) := by decide +kernel
theorem d_K_fill_0 : decode b_K_fill 0 = .ok (.aload_n 0, 1) := by decide +kernel
theorem d_K_fill_1 : decode b_K_fill 1 = .ok (.iload_n 2, 1) := by decide +kernel
theorem d_K_fill_2 : decode b_K_fill 2 = .ok (.iconst 1, 1) := by decide +kernel
theorem d_K_fill_3 : decode b_K_fill 3 = .ok (.if_icmp .lt 9, 3) := by decide +kernel
theorem d_K_fill_6 : decode b_K_fill 6 = .ok (.iload_n 2, 1) := by decide +kernel
theorem d_K_fill_7 : decode b_K_fill 7 = .ok (.ldc 57, 2) := by decide +kernel
theorem d_K_fill_9 : decode b_K_fill 9 = .ok (.if_icmp .le 7, 3) := by decide +kernel
theorem d_K_fill_12 : decode b_K_fill 12 = .ok (.iconst 1, 1) := by decide +kernel
theorem d_K_fill_13 : decode b_K_fill 13 = .ok (.goto 32, 3) := by decide +kernel
theorem d_K_fill_16 : decode b_K_fill 16 = .ok (.aload_n 0, 1) := by decide +kernel
theorem d_K_fill_17 : decode b_K_fill 17 = .ok (.getfield 50, 3) := by decide +kernel
theorem d_K_fill_20 : decode b_K_fill 20 = .ok (.ifCond .ne 20, 3) := by decide +kernel
theorem d_K_fill_23 : decode b_K_fill 23 = .ok (.aload_n 0, 1) := by decide +kernel
theorem d_K_fill_24 : decode b_K_fill 24 = .ok (.getfield 54, 3) := by decide +kernel
theorem d_K_fill_27 : decode b_K_fill 27 = .ok (.iload_n 2, 1) := by decide +kernel
theorem d_K_fill_28 : decode b_K_fill 28 = .ok (.iadd, 1) := by decide +kernel
theorem d_K_fill_29 : decode b_K_fill 29 = .ok (.sipush 4096, 3) := by decide +kernel
theorem d_K_fill_32 : decode b_K_fill 32 = .ok (.aload_n 0, 1) := by decide +kernel
theorem d_K_fill_33 : decode b_K_fill 33 = .ok (.getfield 44, 3) := by decide +kernel
theorem d_K_fill_36 : decode b_K_fill 36 = .ok (.imul, 1) := by decide +kernel
theorem d_K_fill_37 : decode b_K_fill 37 = .ok (.if_icmp .le 7, 3) := by decide +kernel
theorem d_K_fill_40 : decode b_K_fill 40 = .ok (.iconst 2, 1) := by decide +kernel
theorem d_K_fill_41 : decode b_K_fill 41 = .ok (.goto 4, 3) := by decide +kernel
theorem d_K_fill_44 : decode b_K_fill 44 = .ok (.iconst 0, 1) := by decide +kernel
theorem d_K_fill_45 : decode b_K_fill 45 = .ok (.putfield 47, 3) := by decide +kernel
theorem d_K_fill_48 : decode b_K_fill 48 = .ok (.aload_n 0, 1) := by decide +kernel
theorem d_K_fill_49 : decode b_K_fill 49 = .ok (.getfield 47, 3) := by decide +kernel
theorem d_K_fill_52 : decode b_K_fill 52 = .ok (.ifCond .le 5, 3) := by decide +kernel
theorem d_K_fill_55 : decode b_K_fill 55 = .ok (.iconst 0, 1) := by decide +kernel
theorem d_K_fill_56 : decode b_K_fill 56 = .ok (.ireturn, 1) := by decide +kernel
theorem d_K_fill_57 : decode b_K_fill 57 = .ok (.iconst 0, 1) := by decide +kernel
theorem d_K_fill_58 : decode b_K_fill 58 = .ok (.istore_n 3, 1) := by decide +kernel
theorem d_K_fill_59 : decode b_K_fill 59 = .ok (.iload_n 3, 1) := by decide +kernel
theorem d_K_fill_60 : decode b_K_fill 60 = .ok (.iload_n 2, 1) := by decide +kernel
theorem d_K_fill_61 : decode b_K_fill 61 = .ok (.if_icmp .ge 32, 3) := by decide +kernel
theorem d_K_fill_64 : decode b_K_fill 64 = .ok (.aload_n 0, 1) := by decide +kernel
theorem d_K_fill_65 : decode b_K_fill 65 = .ok (.getfield 41, 3) := by decide +kernel
theorem d_K_fill_68 : decode b_K_fill 68 = .ok (.aload_n 0, 1) := by decide +kernel
theorem d_K_fill_69 : decode b_K_fill 69 = .ok (.getfield 54, 3) := by decide +kernel
theorem d_K_fill_72 : decode b_K_fill 72 = .ok (.iload_n 1, 1) := by decide +kernel
theorem d_K_fill_73 : decode b_K_fill 73 = .ok (.iload_n 3, 1) := by decide +kernel
theorem d_K_fill_74 : decode b_K_fill 74 = .ok (.iadd, 1) := by decide +kernel
theorem d_K_fill_75 : decode b_K_fill 75 = .ok (.i2b, 1) := by decide +kernel
theorem d_K_fill_76 : decode b_K_fill 76 = .ok (.bastore, 1) := by decide +kernel
theorem d_K_fill_77 : decode b_K_fill 77 = .ok (.aload_n 0, 1) := by decide +kernel
theorem d_K_fill_78 : decode b_K_fill 78 = .ok (.dup, 1) := by decide +kernel
theorem d_K_fill_79 : decode b_K_fill 79 = .ok (.getfield 54, 3) := by decide +kernel
theorem d_K_fill_82 : decode b_K_fill 82 = .ok (.iconst 1, 1) := by decide +kernel
theorem d_K_fill_83 : decode b_K_fill 83 = .ok (.iadd, 1) := by decide +kernel
theorem d_K_fill_84 : decode b_K_fill 84 = .ok (.putfield 54, 3) := by decide +kernel
theorem d_K_fill_87 : decode b_K_fill 87 = .ok (.iinc 3 1, 3) := by decide +kernel
theorem d_K_fill_90 : decode b_K_fill 90 = .ok (.goto (-31), 3) := by decide +kernel
theorem d_K_fill_93 : decode b_K_fill 93 = .ok (.aload_n 0, 1) := by decide +kernel
theorem d_K_fill_94 : decode b_K_fill 94 = .ok (.getfield 54, 3) := by decide +kernel
theorem d_K_fill_97 : decode b_K_fill 97 = .ok (.ireturn, 1) := by decide +kernel
theorem d_K_drop_0 : decode b_K_drop 0 = .ok (.aload_n 0, 1) := by decide +kernel
theorem d_K_drop_1 : decode b_K_drop 1 = .ok (.aload_n 0, 1) := by decide +kernel
theorem d_K_drop_2 : decode b_K_drop 2 = .ok (.getfield 50, 3) := by decide +kernel
theorem d_K_drop_5 : decode b_K_drop 5 = .ok (.ifCond .eq 7, 3) := by decide +kernel
theorem d_K_drop_8 : decode b_K_drop 8 = .ok (.iconst 1, 1) := by decide +kernel
theorem d_K_drop_9 : decode b_K_drop 9 = .ok (.goto 4, 3) := by decide +kernel
theorem d_K_drop_12 : decode b_K_drop 12 = .ok (.iconst 0, 1) := by decide +kernel
theorem d_K_drop_13 : decode b_K_drop 13 = .ok (.putfield 47, 3) := by decide +kernel
theorem d_K_drop_16 : decode b_K_drop 16 = .ok (.aload_n 0, 1) := by decide +kernel
theorem d_K_drop_17 : decode b_K_drop 17 = .ok (.getfield 47, 3) := by decide +kernel
theorem d_K_drop_20 : decode b_K_drop 20 = .ok (.ifCond .le 5, 3) := by decide +kernel
theorem d_K_drop_23 : decode b_K_drop 23 = .ok (.iconst 0, 1) := by decide +kernel
theorem d_K_drop_24 : decode b_K_drop 24 = .ok (.ireturn, 1) := by decide +kernel
theorem d_K_drop_25 : decode b_K_drop 25 = .ok (.aload_n 0, 1) := by decide +kernel
theorem d_K_drop_26 : decode b_K_drop 26 = .ok (.getfield 54, 3) := by decide +kernel
theorem d_K_drop_29 : decode b_K_drop 29 = .ok (.istore_n 1, 1) := by decide +kernel
theorem d_K_drop_30 : decode b_K_drop 30 = .ok (.aload_n 0, 1) := by decide +kernel
theorem d_K_drop_31 : decode b_K_drop 31 = .ok (.iconst 0, 1) := by decide +kernel
theorem d_K_drop_32 : decode b_K_drop 32 = .ok (.putfield 54, 3) := by decide +kernel
theorem d_K_drop_35 : decode b_K_drop 35 = .ok (.iload_n 1, 1) := by decide +kernel
theorem d_K_drop_36 : decode b_K_drop 36 = .ok (.ireturn, 1) := by decide +kernel
theorem d_K_wish_0 : decode b_K_wish 0 = .ok (.aload_n 0, 1) := by decide +kernel
theorem d_K_wish_1 : decode b_K_wish 1 = .ok (.iload_n 1, 1) := by decide +kernel
theorem d_K_wish_2 : decode b_K_wish 2 = .ok (.ifCond .lt 9, 3) := by decide +kernel
theorem d_K_wish_5 : decode b_K_wish 5 = .ok (.iload_n 1, 1) := by decide +kernel
theorem d_K_wish_6 : decode b_K_wish 6 = .ok (.bipush 23, 2) := by decide +kernel
theorem d_K_wish_8 : decode b_K_wish 8 = .ok (.if_icmp .le 7, 3) := by decide +kernel
theorem d_K_wish_11 : decode b_K_wish 11 = .ok (.iconst 1, 1) := by decide +kernel
theorem d_K_wish_12 : decode b_K_wish 12 = .ok (.goto 15, 3) := by decide +kernel
theorem d_K_wish_15 : decode b_K_wish 15 = .ok (.aload_n 0, 1) := by decide +kernel
theorem d_K_wish_16 : decode b_K_wish 16 = .ok (.getfield 50, 3) := by decide +kernel
theorem d_K_wish_19 : decode b_K_wish 19 = .ok (.ifCond .eq 7, 3) := by decide +kernel
theorem d_K_wish_22 : decode b_K_wish 22 = .ok (.iconst 2, 1) := by decide +kernel
theorem d_K_wish_23 : decode b_K_wish 23 = .ok (.goto 4, 3) := by decide +kernel
theorem d_K_wish_26 : decode b_K_wish 26 = .ok (.iconst 0, 1) := by decide +kernel
theorem d_K_wish_27 : decode b_K_wish 27 = .ok (.putfield 47, 3) := by decide +kernel
theorem d_K_wish_30 : decode b_K_wish 30 = .ok (.aload_n 0, 1) := by decide +kernel
theorem d_K_wish_31 : decode b_K_wish 31 = .ok (.getfield 47, 3) := by decide +kernel
theorem d_K_wish_34 : decode b_K_wish 34 = .ok (.ifCond .le 5, 3) := by decide +kernel
theorem d_K_wish_37 : decode b_K_wish 37 = .ok (.iconst 0, 1) := by decide +kernel
theorem d_K_wish_38 : decode b_K_wish 38 = .ok (.ireturn, 1) := by decide +kernel
theorem d_K_wish_39 : decode b_K_wish 39 = .ok (.aload_n 0, 1) := by decide +kernel
theorem d_K_wish_40 : decode b_K_wish 40 = .ok (.getfield 38, 3) := by decide +kernel
theorem d_K_wish_43 : decode b_K_wish 43 = .ok (.iload_n 1, 1) := by decide +kernel
theorem d_K_wish_44 : decode b_K_wish 44 = .ok (.iaload, 1) := by decide +kernel
theorem d_K_wish_45 : decode b_K_wish 45 = .ok (.istore_n 3, 1) := by decide +kernel
theorem d_K_wish_46 : decode b_K_wish 46 = .ok (.aload_n 0, 1) := by decide +kernel
theorem d_K_wish_47 : decode b_K_wish 47 = .ok (.getfield 38, 3) := by decide +kernel
theorem d_K_wish_50 : decode b_K_wish 50 = .ok (.iload_n 1, 1) := by decide +kernel
theorem d_K_wish_51 : decode b_K_wish 51 = .ok (.iload_n 2, 1) := by decide +kernel
theorem d_K_wish_52 : decode b_K_wish 52 = .ok (.iastore, 1) := by decide +kernel
theorem d_K_wish_53 : decode b_K_wish 53 = .ok (.iload_n 3, 1) := by decide +kernel
theorem d_K_wish_54 : decode b_K_wish 54 = .ok (.ireturn, 1) := by decide +kernel
theorem d_K_note_0 : decode b_K_note 0 = .ok (.aload_n 0, 1) := by decide +kernel
theorem d_K_note_1 : decode b_K_note 1 = .ok (.iload_n 1, 1) := by decide +kernel
theorem d_K_note_2 : decode b_K_note 2 = .ok (.ifCond .lt 9, 3) := by decide +kernel
theorem d_K_note_5 : decode b_K_note 5 = .ok (.iload_n 1, 1) := by decide +kernel
theorem d_K_note_6 : decode b_K_note 6 = .ok (.bipush 23, 2) := by decide +kernel
theorem d_K_note_8 : decode b_K_note 8 = .ok (.if_icmp .le 7, 3) := by decide +kernel
theorem d_K_note_11 : decode b_K_note 11 = .ok (.iconst 1, 1) := by decide +kernel
theorem d_K_note_12 : decode b_K_note 12 = .ok (.goto 15, 3) := by decide +kernel
theorem d_K_note_15 : decode b_K_note 15 = .ok (.aload_n 0, 1) := by decide +kernel
theorem d_K_note_16 : decode b_K_note 16 = .ok (.getfield 50, 3) := by decide +kernel
theorem d_K_note_19 : decode b_K_note 19 = .ok (.ifCond .eq 7, 3) := by decide +kernel
theorem d_K_note_22 : decode b_K_note 22 = .ok (.iconst 2, 1) := by decide +kernel
theorem d_K_note_23 : decode b_K_note 23 = .ok (.goto 4, 3) := by decide +kernel
theorem d_K_note_26 : decode b_K_note 26 = .ok (.iconst 0, 1) := by decide +kernel
theorem d_K_note_27 : decode b_K_note 27 = .ok (.putfield 47, 3) := by decide +kernel
theorem d_K_note_30 : decode b_K_note 30 = .ok (.aload_n 0, 1) := by decide +kernel
theorem d_K_note_31 : decode b_K_note 31 = .ok (.getfield 47, 3) := by decide +kernel
theorem d_K_note_34 : decode b_K_note 34 = .ok (.ifCond .le 7, 3) := by decide +kernel
theorem d_K_note_37 : decode b_K_note 37 = .ok (.iconst 0, 1) := by decide +kernel
theorem d_K_note_38 : decode b_K_note 38 = .ok (.goto 9, 3) := by decide +kernel
theorem d_K_note_41 : decode b_K_note 41 = .ok (.aload_n 0, 1) := by decide +kernel
theorem d_K_note_42 : decode b_K_note 42 = .ok (.getfield 26, 3) := by decide +kernel
theorem d_K_note_45 : decode b_K_note 45 = .ok (.iload_n 1, 1) := by decide +kernel
theorem d_K_note_46 : decode b_K_note 46 = .ok (.iaload, 1) := by decide +kernel
theorem d_K_note_47 : decode b_K_note 47 = .ok (.ireturn, 1) := by decide +kernel
theorem d_K_change_0 : decode b_K_change 0 = .ok (.aload_n 0, 1) := by decide +kernel
theorem d_K_change_1 : decode b_K_change 1 = .ok (.aload_n 0, 1) := by decide +kernel
theorem d_K_change_2 : decode b_K_change 2 = .ok (.getfield 50, 3) := by decide +kernel
theorem d_K_change_5 : decode b_K_change 5 = .ok (.ifCond .eq 7, 3) := by decide +kernel
theorem d_K_change_8 : decode b_K_change 8 = .ok (.iconst 1, 1) := by decide +kernel
theorem d_K_change_9 : decode b_K_change 9 = .ok (.goto 4, 3) := by decide +kernel
theorem d_K_change_12 : decode b_K_change 12 = .ok (.iconst 0, 1) := by decide +kernel
theorem d_K_change_13 : decode b_K_change 13 = .ok (.putfield 47, 3) := by decide +kernel
theorem d_K_change_16 : decode b_K_change 16 = .ok (.aload_n 0, 1) := by decide +kernel
theorem d_K_change_17 : decode b_K_change 17 = .ok (.getfield 47, 3) := by decide +kernel
theorem d_K_change_20 : decode b_K_change 20 = .ok (.ifCond .le 5, 3) := by decide +kernel
theorem d_K_change_23 : decode b_K_change 23 = .ok (.iconst 0, 1) := by decide +kernel
theorem d_K_change_24 : decode b_K_change 24 = .ok (.ireturn, 1) := by decide +kernel
theorem d_K_change_25 : decode b_K_change 25 = .ok (.aload_n 0, 1) := by decide +kernel
theorem d_K_change_26 : decode b_K_change 26 = .ok (.getfield 54, 3) := by decide +kernel
theorem d_K_change_29 : decode b_K_change 29 = .ok (.sipush 4096, 3) := by decide +kernel
theorem d_K_change_32 : decode b_K_change 32 = .ok (.iadd, 1) := by decide +kernel
theorem d_K_change_33 : decode b_K_change 33 = .ok (.iconst 1, 1) := by decide +kernel
theorem d_K_change_34 : decode b_K_change 34 = .ok (.isub, 1) := by decide +kernel
theorem d_K_change_35 : decode b_K_change 35 = .ok (.sipush 4096, 3) := by decide +kernel
theorem d_K_change_38 : decode b_K_change 38 = .ok (.idiv, 1) := by decide +kernel
theorem d_K_change_39 : decode b_K_change 39 = .ok (.istore 4, 2) := by decide +kernel
theorem d_K_change_41 : decode b_K_change 41 = .ok (.iconst 0, 1) := by decide +kernel
theorem d_K_change_42 : decode b_K_change 42 = .ok (.istore 5, 2) := by decide +kernel
theorem d_K_change_44 : decode b_K_change 44 = .ok (.iconst 0, 1) := by decide +kernel
theorem d_K_change_45 : decode b_K_change 45 = .ok (.istore 6, 2) := by decide +kernel
theorem d_K_change_47 : decode b_K_change 47 = .ok (.iload 6, 2) := by decide +kernel
theorem d_K_change_49 : decode b_K_change 49 = .ok (.aload_n 0, 1) := by decide +kernel
theorem d_K_change_50 : decode b_K_change 50 = .ok (.getfield 58, 3) := by decide +kernel
theorem d_K_change_53 : decode b_K_change 53 = .ok (.if_icmp .ge 30, 3) := by decide +kernel
theorem d_K_change_56 : decode b_K_change 56 = .ok (.iload 5, 2) := by decide +kernel
theorem d_K_change_58 : decode b_K_change 58 = .ok (.aload_n 0, 1) := by decide +kernel
theorem d_K_change_59 : decode b_K_change 59 = .ok (.iload 6, 2) := by decide +kernel
theorem d_K_change_61 : decode b_K_change 61 = .ok (.iload_n 2, 1) := by decide +kernel
theorem d_K_change_62 : decode b_K_change 62 = .ok (.iload_n 3, 1) := by decide +kernel
theorem d_K_change_63 : decode b_K_change 63 = .ok (.invokevirtual 64, 3) := by decide +kernel
theorem d_K_change_66 : decode b_K_change 66 = .ok (.ifCond .eq 7, 3) := by decide +kernel
theorem d_K_change_69 : decode b_K_change 69 = .ok (.iconst 0, 1) := by decide +kernel
theorem d_K_change_70 : decode b_K_change 70 = .ok (.goto 4, 3) := by decide +kernel
theorem d_K_change_73 : decode b_K_change 73 = .ok (.iconst 1, 1) := by decide +kernel
theorem d_K_change_74 : decode b_K_change 74 = .ok (.iadd, 1) := by decide +kernel
theorem d_K_change_75 : decode b_K_change 75 = .ok (.istore 5, 2) := by decide +kernel
theorem d_K_change_77 : decode b_K_change 77 = .ok (.iinc 6 1, 3) := by decide +kernel
theorem d_K_change_80 : decode b_K_change 80 = .ok (.goto (-33), 3) := by decide +kernel
theorem d_K_change_83 : decode b_K_change 83 = .ok (.iload 4, 2) := by decide +kernel
theorem d_K_change_85 : decode b_K_change 85 = .ok (.ifCond .ne 7, 3) := by decide +kernel
theorem d_K_change_88 : decode b_K_change 88 = .ok (.iconst 2, 1) := by decide +kernel
theorem d_K_change_89 : decode b_K_change 89 = .ok (.goto 9, 3) := by decide +kernel
theorem d_K_change_92 : decode b_K_change 92 = .ok (.aload_n 0, 1) := by decide +kernel
theorem d_K_change_93 : decode b_K_change 93 = .ok (.iload 4, 2) := by decide +kernel
theorem d_K_change_95 : decode b_K_change 95 = .ok (.invokevirtual 71, 3) := by decide +kernel
theorem d_K_change_98 : decode b_K_change 98 = .ok (.istore 6, 2) := by decide +kernel
theorem d_K_change_100 : decode b_K_change 100 = .ok (.iload 6, 2) := by decide +kernel
theorem d_K_change_102 : decode b_K_change 102 = .ok (.ifCond .lt 18, 3) := by decide +kernel
theorem d_K_change_105 : decode b_K_change 105 = .ok (.iload 4, 2) := by decide +kernel
theorem d_K_change_107 : decode b_K_change 107 = .ok (.ifCond .le 16, 3) := by decide +kernel
theorem d_K_change_110 : decode b_K_change 110 = .ok (.iload 5, 2) := by decide +kernel
theorem d_K_change_112 : decode b_K_change 112 = .ok (.iconst 1, 1) := by decide +kernel
theorem d_K_change_113 : decode b_K_change 113 = .ok (.iadd, 1) := by decide +kernel
theorem d_K_change_114 : decode b_K_change 114 = .ok (.sipush 200, 3) := by decide +kernel
theorem d_K_change_117 : decode b_K_change 117 = .ok (.if_icmp .le 6, 3) := by decide +kernel
theorem d_K_change_120 : decode b_K_change 120 = .ok (.bipush (-2), 2) := by decide +kernel
theorem d_K_change_122 : decode b_K_change 122 = .ok (.ireturn, 1) := by decide +kernel
theorem d_K_change_123 : decode b_K_change 123 = .ok (.aload_n 0, 1) := by decide +kernel
theorem d_K_change_124 : decode b_K_change 124 = .ok (.getfield 7, 3) := by decide +kernel
theorem d_K_change_127 : decode b_K_change 127 = .ok (.ifCond .lt 18, 3) := by decide +kernel
theorem d_K_change_130 : decode b_K_change 130 = .ok (.aload_n 0, 1) := by decide +kernel
theorem d_K_change_131 : decode b_K_change 131 = .ok (.getfield 7, 3) := by decide +kernel
theorem d_K_change_134 : decode b_K_change 134 = .ok (.iload 4, 2) := by decide +kernel
theorem d_K_change_136 : decode b_K_change 136 = .ok (.iconst 1, 1) := by decide +kernel
theorem d_K_change_137 : decode b_K_change 137 = .ok (.iadd, 1) := by decide +kernel
theorem d_K_change_138 : decode b_K_change 138 = .ok (.if_icmp .gt 7, 3) := by decide +kernel
theorem d_K_change_141 : decode b_K_change 141 = .ok (.iconst 1, 1) := by decide +kernel
theorem d_K_change_142 : decode b_K_change 142 = .ok (.goto 4, 3) := by decide +kernel
theorem d_K_change_145 : decode b_K_change 145 = .ok (.iconst 0, 1) := by decide +kernel
theorem d_K_change_146 : decode b_K_change 146 = .ok (.istore 7, 2) := by decide +kernel
