theorem d_P_limitPower_0 : decode b_P_limitPower 0 = .ok (.aload_n 0, 1) := by decide +kernel
theorem d_P_limitPower_1 : decode b_P_limitPower 1 = .ok (.iload_n 1, 1) := by decide +kernel
theorem d_P_limitPower_2 : decode b_P_limitPower 2 = .ok (.putfield 15, 3) := by decide +kernel
theorem d_P_limitPower_5 : decode b_P_limitPower 5 = .ok (.aload_n 0, 1) := by decide +kernel
theorem d_P_limitPower_6 : decode b_P_limitPower 6 = .ok (.iload_n 1, 1) := by decide +kernel
theorem d_P_limitPower_7 : decode b_P_limitPower 7 = .ok (.ifCond .ne 7, 3) := by decide +kernel
theorem d_P_limitPower_10 : decode b_P_limitPower 10 = .ok (.iconst 1, 1) := by decide +kernel
theorem d_P_limitPower_11 : decode b_P_limitPower 11 = .ok (.goto 4, 3) := by decide +kernel
theorem d_P_limitPower_14 : decode b_P_limitPower 14 = .ok (.iconst 0, 1) := by decide +kernel
theorem d_P_limitPower_15 : decode b_P_limitPower 15 = .ok (.putfield 19, 3) := by decide +kernel
theorem d_P_limitPower_18 : decode b_P_limitPower 18 = .ok (.return_, 1) := by decide +kernel
theorem d_P_read_0 : decode b_P_read 0 = .ok (.iload_n 1, 1) := by decide +kernel
theorem d_P_read_1 : decode b_P_read 1 = .ok (.ifCond .lt 25, 3) := by decide +kernel
theorem d_P_read_4 : decode b_P_read 4 = .ok (.iload_n 1, 1) := by decide +kernel
theorem d_P_read_5 : decode b_P_read 5 = .ok (.aload_n 0, 1) := by decide +kernel
theorem d_P_read_6 : decode b_P_read 6 = .ok (.getfield 9, 3) := by decide +kernel
theorem d_P_read_9 : decode b_P_read 9 = .ok (.arraylength, 1) := by decide +kernel
theorem d_P_read_10 : decode b_P_read 10 = .ok (.if_icmp .ge 16, 3) := by decide +kernel
theorem d_P_read_13 : decode b_P_read 13 = .ok (.aload_n 0, 1) := by decide +kernel
theorem d_P_read_14 : decode b_P_read 14 = .ok (.getfield 9, 3) := by decide +kernel
theorem d_P_read_17 : decode b_P_read 17 = .ok (.iload_n 1, 1) := by decide +kernel
theorem d_P_read_18 : decode b_P_read 18 = .ok (.baload, 1) := by decide +kernel
theorem d_P_read_19 : decode b_P_read 19 = .ok (.sipush 255, 3) := by decide +kernel
theorem d_P_read_22 : decode b_P_read 22 = .ok (.iand, 1) := by decide +kernel
theorem d_P_read_23 : decode b_P_read 23 = .ok (.goto 4, 3) := by decide +kernel
theorem d_P_read_26 : decode b_P_read 26 = .ok (.iconst 0, 1) := by decide +kernel
theorem d_P_read_27 : decode b_P_read 27 = .ok (.ireturn, 1) := by decide +kernel
theorem d_P_readInt_0 : decode b_P_readInt 0 = .ok (.aload_n 0, 1) := by decide +kernel
theorem d_P_readInt_1 : decode b_P_readInt 1 = .ok (.iload_n 1, 1) := by decide +kernel
theorem d_P_readInt_2 : decode b_P_readInt 2 = .ok (.invokevirtual 36, 3) := by decide +kernel
theorem d_P_readInt_5 : decode b_P_readInt 5 = .ok (.bipush 24, 2) := by decide +kernel
theorem d_P_readInt_7 : decode b_P_readInt 7 = .ok (.ishl, 1) := by decide +kernel
theorem d_P_readInt_8 : decode b_P_readInt 8 = .ok (.aload_n 0, 1) := by decide +kernel
theorem d_P_readInt_9 : decode b_P_readInt 9 = .ok (.iload_n 1, 1) := by decide +kernel
theorem d_P_readInt_10 : decode b_P_readInt 10 = .ok (.iconst 1, 1) := by decide +kernel
theorem d_P_readInt_11 : decode b_P_readInt 11 = .ok (.iadd, 1) := by decide +kernel
theorem d_P_readInt_12 : decode b_P_readInt 12 = .ok (.invokevirtual 36, 3) := by decide +kernel
theorem d_P_readInt_15 : decode b_P_readInt 15 = .ok (.bipush 16, 2) := by decide +kernel
theorem d_P_readInt_17 : decode b_P_readInt 17 = .ok (.ishl, 1) := by decide +kernel
theorem d_P_readInt_18 : decode b_P_readInt 18 = .ok (.ior, 1) := by decide +kernel
theorem d_P_readInt_19 : decode b_P_readInt 19 = .ok (.aload_n 0, 1) := by decide +kernel
theorem d_P_readInt_20 : decode b_P_readInt 20 = .ok (.iload_n 1, 1) := by decide +kernel
theorem d_P_readInt_21 : decode b_P_readInt 21 = .ok (.iconst 2, 1) := by decide +kernel
theorem d_P_readInt_22 : decode b_P_readInt 22 = .ok (.iadd, 1) := by decide +kernel
theorem d_P_readInt_23 : decode b_P_readInt 23 = .ok (.invokevirtual 36, 3) := by decide +kernel
theorem d_P_readInt_26 : decode b_P_readInt 26 = .ok (.bipush 8, 2) := by decide +kernel
theorem d_P_readInt_28 : decode b_P_readInt 28 = .ok (.ishl, 1) := by decide +kernel
theorem d_P_readInt_29 : decode b_P_readInt 29 = .ok (.ior, 1) := by decide +kernel
theorem d_P_readInt_30 : decode b_P_readInt 30 = .ok (.aload_n 0, 1) := by decide +kernel
theorem d_P_readInt_31 : decode b_P_readInt 31 = .ok (.iload_n 1, 1) := by decide +kernel
theorem d_P_readInt_32 : decode b_P_readInt 32 = .ok (.iconst 3, 1) := by decide +kernel
theorem d_P_readInt_33 : decode b_P_readInt 33 = .ok (.iadd, 1) := by decide +kernel
theorem d_P_readInt_34 : decode b_P_readInt 34 = .ok (.invokevirtual 36, 3) := by decide +kernel
theorem d_P_readInt_37 : decode b_P_readInt 37 = .ok (.ior, 1) := by decide +kernel
theorem d_P_readInt_38 : decode b_P_readInt 38 = .ok (.ireturn, 1) := by decide +kernel
theorem d_P_writeBlock_0 : decode b_P_writeBlock 0 = .ok (.iload_n 1, 1) := by decide +kernel
theorem d_P_writeBlock_1 : decode b_P_writeBlock 1 = .ok (.sipush 4096, 3) := by decide +kernel
theorem d_P_writeBlock_4 : decode b_P_writeBlock 4 = .ok (.imul, 1) := by decide +kernel
theorem d_P_writeBlock_5 : decode b_P_writeBlock 5 = .ok (.istore 4, 2) := by decide +kernel
theorem d_P_writeBlock_7 : decode b_P_writeBlock 7 = .ok (.aload_n 0, 1) := by decide +kernel
theorem d_P_writeBlock_8 : decode b_P_writeBlock 8 = .ok (.getfield 19, 3) := by decide +kernel
theorem d_P_writeBlock_11 : decode b_P_writeBlock 11 = .ok (.ifCond .ne 36, 3) := by decide +kernel
theorem d_P_writeBlock_14 : decode b_P_writeBlock 14 = .ok (.iload 4, 2) := by decide +kernel
theorem d_P_writeBlock_16 : decode b_P_writeBlock 16 = .ok (.ifCond .lt 31, 3) := by decide +kernel
theorem d_P_writeBlock_19 : decode b_P_writeBlock 19 = .ok (.iload 4, 2) := by decide +kernel
theorem d_P_writeBlock_21 : decode b_P_writeBlock 21 = .ok (.aload_n 0, 1) := by decide +kernel
theorem d_P_writeBlock_22 : decode b_P_writeBlock 22 = .ok (.getfield 9, 3) := by decide +kernel
theorem d_P_writeBlock_25 : decode b_P_writeBlock 25 = .ok (.arraylength, 1) := by decide +kernel
theorem d_P_writeBlock_26 : decode b_P_writeBlock 26 = .ok (.sipush 4096, 3) := by decide +kernel
theorem d_P_writeBlock_29 : decode b_P_writeBlock 29 = .ok (.isub, 1) := by decide +kernel
theorem d_P_writeBlock_30 : decode b_P_writeBlock 30 = .ok (.if_icmp .gt 17, 3) := by decide +kernel
theorem d_P_writeBlock_33 : decode b_P_writeBlock 33 = .ok (.iload_n 3, 1) := by decide +kernel
theorem d_P_writeBlock_34 : decode b_P_writeBlock 34 = .ok (.ifCond .lt 13, 3) := by decide +kernel
theorem d_P_writeBlock_37 : decode b_P_writeBlock 37 = .ok (.iload_n 3, 1) := by decide +kernel
theorem d_P_writeBlock_38 : decode b_P_writeBlock 38 = .ok (.aload_n 2, 1) := by decide +kernel
theorem d_P_writeBlock_39 : decode b_P_writeBlock 39 = .ok (.arraylength, 1) := by decide +kernel
theorem d_P_writeBlock_40 : decode b_P_writeBlock 40 = .ok (.sipush 4096, 3) := by decide +kernel
theorem d_P_writeBlock_43 : decode b_P_writeBlock 43 = .ok (.isub, 1) := by decide +kernel
theorem d_P_writeBlock_44 : decode b_P_writeBlock 44 = .ok (.if_icmp .le 5, 3) := by decide +kernel
theorem d_P_writeBlock_47 : decode b_P_writeBlock 47 = .ok (.iconst 0, 1) := by decide +kernel
theorem d_P_writeBlock_48 : decode b_P_writeBlock 48 = .ok (.ireturn, 1) := by decide +kernel
theorem d_P_writeBlock_49 : decode b_P_writeBlock 49 = .ok (.aload_n 2, 1) := by decide +kernel
theorem d_P_writeBlock_50 : decode b_P_writeBlock 50 = .ok (.iload_n 3, 1) := by decide +kernel
theorem d_P_writeBlock_51 : decode b_P_writeBlock 51 = .ok (.aload_n 0, 1) := by decide +kernel
theorem d_P_writeBlock_52 : decode b_P_writeBlock 52 = .ok (.getfield 9, 3) := by decide +kernel
theorem d_P_writeBlock_55 : decode b_P_writeBlock 55 = .ok (.iload 4, 2) := by decide +kernel
theorem d_P_writeBlock_57 : decode b_P_writeBlock 57 = .ok (.sipush 4096, 3) := by decide +kernel
theorem d_P_writeBlock_60 : decode b_P_writeBlock 60 = .ok (.invokestatic 23, 3) := by decide +kernel
theorem d_P_writeBlock_63 : decode b_P_writeBlock 63 = .ok (.aload_n 0, 1) := by decide +kernel
theorem d_P_writeBlock_64 : decode b_P_writeBlock 64 = .ok (.dup, 1) := by decide +kernel
theorem d_P_writeBlock_65 : decode b_P_writeBlock 65 = .ok (.getfield 29, 3) := by decide +kernel
theorem d_P_writeBlock_68 : decode b_P_writeBlock 68 = .ok (.iconst 1, 1) := by decide +kernel
theorem d_P_writeBlock_69 : decode b_P_writeBlock 69 = .ok (.iadd, 1) := by decide +kernel
theorem d_P_writeBlock_70 : decode b_P_writeBlock 70 = .ok (.putfield 29, 3) := by decide +kernel
theorem d_P_writeBlock_73 : decode b_P_writeBlock 73 = .ok (.aload_n 0, 1) := by decide +kernel
theorem d_P_writeBlock_74 : decode b_P_writeBlock 74 = .ok (.getfield 15, 3) := by decide +kernel
theorem d_P_writeBlock_77 : decode b_P_writeBlock 77 = .ok (.ifCond .le 13, 3) := by decide +kernel
theorem d_P_writeBlock_80 : decode b_P_writeBlock 80 = .ok (.aload_n 0, 1) := by decide +kernel
theorem d_P_writeBlock_81 : decode b_P_writeBlock 81 = .ok (.aload_n 0, 1) := by decide +kernel
theorem d_P_writeBlock_82 : decode b_P_writeBlock 82 = .ok (.getfield 15, 3) := by decide +kernel
theorem d_P_writeBlock_85 : decode b_P_writeBlock 85 = .ok (.iconst 1, 1) := by decide +kernel
theorem d_P_writeBlock_86 : decode b_P_writeBlock 86 = .ok (.isub, 1) := by decide +kernel
theorem d_P_writeBlock_87 : decode b_P_writeBlock 87 = .ok (.invokevirtual 32, 3) := by decide +kernel
theorem d_P_writeBlock_90 : decode b_P_writeBlock 90 = .ok (.aload_n 0, 1) := by decide +kernel
theorem d_P_writeBlock_91 : decode b_P_writeBlock 91 = .ok (.getfield 19, 3) := by decide +kernel
theorem d_P_writeBlock_94 : decode b_P_writeBlock 94 = .ok (.ifCond .ne 7, 3) := by decide +kernel
theorem d_P_writeBlock_97 : decode b_P_writeBlock 97 = .ok (.iconst 1, 1) := by decide +kernel
theorem d_P_writeBlock_98 : decode b_P_writeBlock 98 = .ok (.goto 4, 3) := by decide +kernel
theorem d_P_writeBlock_101 : decode b_P_writeBlock 101 = .ok (.iconst 0, 1) := by decide +kernel
theorem d_P_writeBlock_102 : decode b_P_writeBlock 102 = .ok (.ireturn, 1) := by decide +kernel
theorem d_Tp_hasRoomFor_0 : decode b_Tp_hasRoomFor 0 = .ok (.iload_n 1, 1) := by decide +kernel
theorem d_Tp_hasRoomFor_1 : decode b_Tp_hasRoomFor 1 = .ok (.aload_n 0, 1) := by decide +kernel
theorem d_Tp_hasRoomFor_2 : decode b_Tp_hasRoomFor 2 = .ok (.getfield 9, 3) := by decide +kernel
theorem d_Tp_hasRoomFor_5 : decode b_Tp_hasRoomFor 5 = .ok (.arraylength, 1) := by decide +kernel
theorem d_Tp_hasRoomFor_6 : decode b_Tp_hasRoomFor 6 = .ok (.aload_n 0, 1) := by decide +kernel
theorem d_Tp_hasRoomFor_7 : decode b_Tp_hasRoomFor 7 = .ok (.getfield 15, 3) := by decide +kernel
theorem d_Tp_hasRoomFor_10 : decode b_Tp_hasRoomFor 10 = .ok (.isub, 1) := by decide +kernel
theorem d_Tp_hasRoomFor_11 : decode b_Tp_hasRoomFor 11 = .ok (.if_icmp .gt 7, 3) := by decide +kernel
theorem d_Tp_hasRoomFor_14 : decode b_Tp_hasRoomFor 14 = .ok (.iconst 1, 1) := by decide +kernel
theorem d_Tp_hasRoomFor_15 : decode b_Tp_hasRoomFor 15 = .ok (.goto 4, 3) := by decide +kernel
theorem d_Tp_hasRoomFor_18 : decode b_Tp_hasRoomFor 18 = .ok (.iconst 0, 1) := by decide +kernel
theorem d_Tp_hasRoomFor_19 : decode b_Tp_hasRoomFor 19 = .ok (.ireturn, 1) := by decide +kernel
theorem d_Tp_append_0 : decode b_Tp_append 0 = .ok (.aload_n 0, 1) := by decide +kernel
theorem d_Tp_append_1 : decode b_Tp_append 1 = .ok (.getfield 15, 3) := by decide +kernel
theorem d_Tp_append_4 : decode b_Tp_append 4 = .ok (.ifCond .lt 35, 3) := by decide +kernel
theorem d_Tp_append_7 : decode b_Tp_append 7 = .ok (.aload_n 0, 1) := by decide +kernel
theorem d_Tp_append_8 : decode b_Tp_append 8 = .ok (.getfield 15, 3) := by decide +kernel
theorem d_Tp_append_11 : decode b_Tp_append 11 = .ok (.aload_n 0, 1) := by decide +kernel
theorem d_Tp_append_12 : decode b_Tp_append 12 = .ok (.getfield 9, 3) := by decide +kernel
theorem d_Tp_append_15 : decode b_Tp_append 15 = .ok (.arraylength, 1) := by decide +kernel
theorem d_Tp_append_16 : decode b_Tp_append 16 = .ok (.if_icmp .ge 23, 3) := by decide +kernel
theorem d_Tp_append_19 : decode b_Tp_append 19 = .ok (.aload_n 0, 1) := by decide +kernel
theorem d_Tp_append_20 : decode b_Tp_append 20 = .ok (.getfield 9, 3) := by decide +kernel
theorem d_Tp_append_23 : decode b_Tp_append 23 = .ok (.aload_n 0, 1) := by decide +kernel
theorem d_Tp_append_24 : decode b_Tp_append 24 = .ok (.getfield 15, 3) := by decide +kernel
theorem d_Tp_append_27 : decode b_Tp_append 27 = .ok (.iload_n 1, 1) := by decide +kernel
theorem d_Tp_append_28 : decode b_Tp_append 28 = .ok (.bastore, 1) := by decide +kernel
theorem d_Tp_append_29 : decode b_Tp_append 29 = .ok (.aload_n 0, 1) := by decide +kernel
theorem d_Tp_append_30 : decode b_Tp_append 30 = .ok (.dup, 1) := by decide +kernel
theorem d_Tp_append_31 : decode b_Tp_append 31 = .ok (.getfield 15, 3) := by decide +kernel
theorem d_Tp_append_34 : decode b_Tp_append 34 = .ok (.iconst 1, 1) := by decide +kernel
theorem d_Tp_append_35 : decode b_Tp_append 35 = .ok (.iadd, 1) := by decide +kernel
theorem d_Tp_append_36 : decode b_Tp_append 36 = .ok (.putfield 15, 3) := by decide +kernel
theorem d_Tp_append_39 : decode b_Tp_append 39 = .ok (.return_, 1) := by decide +kernel
theorem d_M_holds_0 : decode b_M_holds 0 = .ok (.iload_n 1, 1) := by decide +kernel
theorem d_M_holds_1 : decode b_M_holds 1 = .ok (.ifCond .lt 22, 3) := by decide +kernel
theorem d_M_holds_4 : decode b_M_holds 4 = .ok (.iload_n 1, 1) := by decide +kernel
theorem d_M_holds_5 : decode b_M_holds 5 = .ok (.aload_n 0, 1) := by decide +kernel
theorem d_M_holds_6 : decode b_M_holds 6 = .ok (.getfield 24, 3) := by decide +kernel
theorem d_M_holds_9 : decode b_M_holds 9 = .ok (.if_icmp .ge 14, 3) := by decide +kernel
theorem d_M_holds_12 : decode b_M_holds 12 = .ok (.iload_n 1, 1) := by decide +kernel
theorem d_M_holds_13 : decode b_M_holds 13 = .ok (.sipush 200, 3) := by decide +kernel
theorem d_M_holds_16 : decode b_M_holds 16 = .ok (.if_icmp .ge 7, 3) := by decide +kernel
theorem d_M_holds_19 : decode b_M_holds 19 = .ok (.iconst 1, 1) := by decide +kernel
theorem d_M_holds_20 : decode b_M_holds 20 = .ok (.goto 4, 3) := by decide +kernel
theorem d_M_holds_23 : decode b_M_holds 23 = .ok (.iconst 0, 1) := by decide +kernel
theorem d_M_holds_24 : decode b_M_holds 24 = .ok (.ireturn, 1) := by decide +kernel
theorem d_M_add_0 : decode b_M_add 0 = .ok (.aload_n 0, 1) := by decide +kernel
theorem d_M_add_1 : decode b_M_add 1 = .ok (.getfield 24, 3) := by decide +kernel
theorem d_M_add_4 : decode b_M_add 4 = .ok (.ifCond .lt 13, 3) := by decide +kernel
theorem d_M_add_7 : decode b_M_add 7 = .ok (.aload_n 0, 1) := by decide +kernel
theorem d_M_add_8 : decode b_M_add 8 = .ok (.getfield 24, 3) := by decide +kernel
theorem d_M_add_11 : decode b_M_add 11 = .ok (.sipush 200, 3) := by decide +kernel
theorem d_M_add_14 : decode b_M_add 14 = .ok (.if_icmp .lt 5, 3) := by decide +kernel
theorem d_M_add_17 : decode b_M_add 17 = .ok (.iconst 0, 1) := by decide +kernel
theorem d_M_add_18 : decode b_M_add 18 = .ok (.ireturn, 1) := by decide +kernel
theorem d_M_add_19 : decode b_M_add 19 = .ok (.aload_n 0, 1) := by decide +kernel
theorem d_M_add_20 : decode b_M_add 20 = .ok (.getfield 11, 3) := by decide +kernel
theorem d_M_add_23 : decode b_M_add 23 = .ok (.aload_n 0, 1) := by decide +kernel
theorem d_M_add_24 : decode b_M_add 24 = .ok (.getfield 24, 3) := by decide +kernel
theorem d_M_add_27 : decode b_M_add 27 = .ok (.iload_n 1, 1) := by decide +kernel
theorem d_M_add_28 : decode b_M_add 28 = .ok (.iastore, 1) := by decide +kernel
theorem d_M_add_29 : decode b_M_add 29 = .ok (.aload_n 0, 1) := by decide +kernel
theorem d_M_add_30 : decode b_M_add 30 = .ok (.getfield 15, 3) := by decide +kernel
theorem d_M_add_33 : decode b_M_add 33 = .ok (.aload_n 0, 1) := by decide +kernel
theorem d_M_add_34 : decode b_M_add 34 = .ok (.getfield 24, 3) := by decide +kernel
theorem d_M_add_37 : decode b_M_add 37 = .ok (.iload_n 2, 1) := by decide +kernel
theorem d_M_add_38 : decode b_M_add 38 = .ok (.iastore, 1) := by decide +kernel
theorem d_M_add_39 : decode b_M_add 39 = .ok (.aload_n 0, 1) := by decide +kernel
theorem d_M_add_40 : decode b_M_add 40 = .ok (.getfield 18, 3) := by decide +kernel
theorem d_M_add_43 : decode b_M_add 43 = .ok (.aload_n 0, 1) := by decide +kernel
theorem d_M_add_44 : decode b_M_add 44 = .ok (.getfield 24, 3) := by decide +kernel
theorem d_M_add_47 : decode b_M_add 47 = .ok (.iload_n 3, 1) := by decide +kernel
theorem d_M_add_48 : decode b_M_add 48 = .ok (.iastore, 1) := by decide +kernel
theorem d_M_add_49 : decode b_M_add 49 = .ok (.aload_n 0, 1) := by decide +kernel
theorem d_M_add_50 : decode b_M_add 50 = .ok (.dup, 1) := by decide +kernel
theorem d_M_add_51 : decode b_M_add 51 = .ok (.getfield 24, 3) := by decide +kernel
theorem d_M_add_54 : decode b_M_add 54 = .ok (.iconst 1, 1) := by decide +kernel
theorem d_M_add_55 : decode b_M_add 55 = .ok (.iadd, 1) := by decide +kernel
theorem d_M_add_56 : decode b_M_add 56 = .ok (.putfield 24, 3) := by decide +kernel
theorem d_M_add_59 : decode b_M_add 59 = .ok (.iconst 1, 1) := by decide +kernel
theorem d_M_add_60 : decode b_M_add 60 = .ok (.ireturn, 1) := by decide +kernel
theorem d_A_fill_0 : decode b_A_fill 0 = .ok (.iconst 0, 1) := by decide +kernel
theorem d_A_fill_1 : decode b_A_fill 1 = .ok (.istore_n 2, 1) := by decide +kernel
theorem d_A_fill_2 : decode b_A_fill 2 = .ok (.aload_n 0, 1) := by decide +kernel
theorem d_A_fill_3 : decode b_A_fill 3 = .ok (.arraylength, 1) := by decide +kernel
theorem d_A_fill_4 : decode b_A_fill 4 = .ok (.istore_n 3, 1) := by decide +kernel
theorem d_A_fill_5 : decode b_A_fill 5 = .ok (.iload_n 2, 1) := by decide +kernel
theorem d_A_fill_6 : decode b_A_fill 6 = .ok (.iload_n 3, 1) := by decide +kernel
theorem d_A_fill_7 : decode b_A_fill 7 = .ok (.if_icmp .ge 13, 3) := by decide +kernel
theorem d_A_fill_10 : decode b_A_fill 10 = .ok (.aload_n 0, 1) := by decide +kernel
theorem d_A_fill_11 : decode b_A_fill 11 = .ok (.iload_n 2, 1) := by decide +kernel
theorem d_A_fill_12 : decode b_A_fill 12 = .ok (.iload_n 1, 1) := by decide +kernel
theorem d_A_fill_13 : decode b_A_fill 13 = .ok (.iastore, 1) := by decide +kernel
theorem d_A_fill_14 : decode b_A_fill 14 = .ok (.iinc 2 1, 3) := by decide +kernel
theorem d_A_fill_17 : decode b_A_fill 17 = .ok (.goto (-12), 3) := by decide +kernel
theorem d_A_fill_20 : decode b_A_fill 20 = .ok (.return_, 1) := by decide +kernel
theorem d_M_clear_0 : decode b_M_clear 0 = .ok (.aload_n 0, 1) := by decide +kernel
theorem d_M_clear_1 : decode b_M_clear 1 = .ok (.iconst 0, 1) := by decide +kernel
theorem d_M_clear_2 : decode b_M_clear 2 = .ok (.putfield 24, 3) := by decide +kernel
theorem d_M_clear_5 : decode b_M_clear 5 = .ok (.aload_n 0, 1) := by decide +kernel
theorem d_M_clear_6 : decode b_M_clear 6 = .ok (.iconst 0, 1) := by decide +kernel
theorem d_M_clear_7 : decode b_M_clear 7 = .ok (.putfield 28, 3) := by decide +kernel
theorem d_M_clear_10 : decode b_M_clear 10 = .ok (.aload_n 0, 1) := by decide +kernel
theorem d_M_clear_11 : decode b_M_clear 11 = .ok (.getfield 21, 3) := by decide +kernel
theorem d_M_clear_14 : decode b_M_clear 14 = .ok (.iconst 0, 1) := by decide +kernel
theorem d_M_clear_15 : decode b_M_clear 15 = .ok (.invokestatic 31, 3) := by decide +kernel
theorem d_M_clear_18 : decode b_M_clear 18 = .ok (.return_, 1) := by decide +kernel
theorem d_M_takeNotes_0 : decode b_M_takeNotes 0 = .ok (.iconst 0, 1) := by decide +kernel
theorem d_M_takeNotes_1 : decode b_M_takeNotes 1 = .ok (.istore_n 2, 1) := by decide +kernel
theorem d_M_takeNotes_2 : decode b_M_takeNotes 2 = .ok (.iload_n 2, 1) := by decide +kernel
theorem d_M_takeNotes_3 : decode b_M_takeNotes 3 = .ok (.bipush 24, 2) := by decide +kernel
theorem d_M_takeNotes_5 : decode b_M_takeNotes 5 = .ok (.if_icmp .ge 24, 3) := by decide +kernel
theorem d_M_takeNotes_8 : decode b_M_takeNotes 8 = .ok (.iload_n 2, 1) := by decide +kernel
theorem d_M_takeNotes_9 : decode b_M_takeNotes 9 = .ok (.aload_n 1, 1) := by decide +kernel
theorem d_M_takeNotes_10 : decode b_M_takeNotes 10 = .ok (.arraylength, 1) := by decide +kernel
theorem d_M_takeNotes_11 : decode b_M_takeNotes 11 = .ok (.if_icmp .ge 18, 3) := by decide +kernel
theorem d_M_takeNotes_14 : decode b_M_takeNotes 14 = .ok (.aload_n 0, 1) := by decide +kernel
theorem d_M_takeNotes_15 : decode b_M_takeNotes 15 = .ok (.getfield 21, 3) := by decide +kernel
theorem d_M_takeNotes_18 : decode b_M_takeNotes 18 = .ok (.iload_n 2, 1) := by decide +kernel
theorem d_M_takeNotes_19 : decode b_M_takeNotes 19 = .ok (.aload_n 1, 1) := by decide +kernel
theorem d_M_takeNotes_20 : decode b_M_takeNotes 20 = .ok (.iload_n 2, 1) := by decide +kernel
theorem d_M_takeNotes_21 : decode b_M_takeNotes 21 = .ok (.iaload, 1) := by decide +kernel
theorem d_M_takeNotes_22 : decode b_M_takeNotes 22 = .ok (.iastore, 1) := by decide +kernel
theorem d_M_takeNotes_23 : decode b_M_takeNotes 23 = .ok (.iinc 2 1, 3) := by decide +kernel
theorem d_M_takeNotes_26 : decode b_M_takeNotes 26 = .ok (.goto (-24), 3) := by decide +kernel
theorem d_M_takeNotes_29 : decode b_M_takeNotes 29 = .ok (.return_, 1) := by decide +kernel
theorem d_M_follow_0 : decode b_M_follow 0 = .ok (.aload_n 0, 1) := by decide +kernel
theorem d_M_follow_1 : decode b_M_follow 1 = .ok (.invokevirtual 37, 3) := by decide +kernel
theorem d_M_follow_4 : decode b_M_follow 4 = .ok (.aload_n 0, 1) := by decide +kernel
theorem d_M_follow_5 : decode b_M_follow 5 = .ok (.aload_n 1, 1) := by decide +kernel
theorem d_M_follow_6 : decode b_M_follow 6 = .ok (.getfield 28, 3) := by decide +kernel
theorem d_M_follow_9 : decode b_M_follow 9 = .ok (.iconst 1, 1) := by decide +kernel
theorem d_M_follow_10 : decode b_M_follow 10 = .ok (.iadd, 1) := by decide +kernel
theorem d_M_follow_11 : decode b_M_follow 11 = .ok (.putfield 28, 3) := by decide +kernel
theorem d_M_follow_14 : decode b_M_follow 14 = .ok (.iconst 0, 1) := by decide +kernel
theorem d_M_follow_15 : decode b_M_follow 15 = .ok (.istore 4, 2) := by decide +kernel
theorem d_M_follow_17 : decode b_M_follow 17 = .ok (.iload 4, 2) := by decide +kernel
theorem d_M_follow_19 : decode b_M_follow 19 = .ok (.aload_n 1, 1) := by decide +kernel
theorem d_M_follow_20 : decode b_M_follow 20 = .ok (.getfield 24, 3) := by decide +kernel
theorem d_M_follow_23 : decode b_M_follow 23 = .ok (.if_icmp .ge 59, 3) := by decide +kernel
theorem d_M_follow_26 : decode b_M_follow 26 = .ok (.iload 4, 2) := by decide +kernel
theorem d_M_follow_28 : decode b_M_follow 28 = .ok (.sipush 200, 3) := by decide +kernel
theorem d_M_follow_31 : decode b_M_follow 31 = .ok (.if_icmp .ge 51, 3) := by decide +kernel
theorem d_M_follow_34 : decode b_M_follow 34 = .ok (.aload_n 1, 1) := by decide +kernel
theorem d_M_follow_35 : decode b_M_follow 35 = .ok (.getfield 11, 3) := by decide +kernel
theorem d_M_follow_38 : decode b_M_follow 38 = .ok (.iload 4, 2) := by decide +kernel
theorem d_M_follow_40 : decode b_M_follow 40 = .ok (.iaload, 1) := by decide +kernel
theorem d_M_follow_41 : decode b_M_follow 41 = .ok (.istore 5, 2) := by decide +kernel
theorem d_M_follow_43 : decode b_M_follow 43 = .ok (.iload 5, 2) := by decide +kernel
theorem d_M_follow_45 : decode b_M_follow 45 = .ok (.iload_n 2, 1) := by decide +kernel
theorem d_M_follow_46 : decode b_M_follow 46 = .ok (.if_icmp .lt 9, 3) := by decide +kernel
theorem d_M_follow_49 : decode b_M_follow 49 = .ok (.iload 5, 2) := by decide +kernel
theorem d_M_follow_51 : decode b_M_follow 51 = .ok (.iload_n 3, 1) := by decide +kernel
theorem d_M_follow_52 : decode b_M_follow 52 = .ok (.if_icmp .le 24, 3) := by decide +kernel
theorem d_M_follow_55 : decode b_M_follow 55 = .ok (.aload_n 0, 1) := by decide +kernel
theorem d_M_follow_56 : decode b_M_follow 56 = .ok (.iload 5, 2) := by decide +kernel
theorem d_M_follow_58 : decode b_M_follow 58 = .ok (.aload_n 1, 1) := by decide +kernel
theorem d_M_follow_59 : decode b_M_follow 59 = .ok (.getfield 15, 3) := by decide +kernel
theorem d_M_follow_62 : decode b_M_follow 62 = .ok (.iload 4, 2) := by decide +kernel
theorem d_M_follow_64 : decode b_M_follow 64 = .ok (.iaload, 1) := by decide +kernel
theorem d_M_follow_65 : decode b_M_follow 65 = .ok (.aload_n 1, 1) := by decide +kernel
theorem d_M_follow_66 : decode b_M_follow 66 = .ok (.getfield 18, 3) := by decide +kernel
theorem d_M_follow_69 : decode b_M_follow 69 = .ok (.iload 4, 2) := by decide +kernel
theorem d_M_follow_71 : decode b_M_follow 71 = .ok (.iaload, 1) := by decide +kernel
theorem d_M_follow_72 : decode b_M_follow 72 = .ok (.invokevirtual 40, 3) := by decide +kernel
theorem d_M_follow_75 : decode b_M_follow 75 = .ok (.pop, 1) := by decide +kernel
theorem d_M_follow_76 : decode b_M_follow 76 = .ok (.iinc 4 1, 3) := by decide +kernel
theorem d_M_follow_79 : decode b_M_follow 79 = .ok (.goto (-62), 3) := by decide +kernel
theorem d_M_follow_82 : decode b_M_follow 82 = .ok (.return_, 1) := by decide +kernel
theorem d_D_blocksFor_0 : decode b_D_blocksFor 0 = .ok (.iload_n 0, 1) := by decide +kernel
theorem d_D_blocksFor_1 : decode b_D_blocksFor 1 = .ok (.sipush 4096, 3) := by decide +kernel
theorem d_D_blocksFor_4 : decode b_D_blocksFor 4 = .ok (.iadd, 1) := by decide +kernel
theorem d_D_blocksFor_5 : decode b_D_blocksFor 5 = .ok (.iconst 1, 1) := by decide +kernel
theorem d_D_blocksFor_6 : decode b_D_blocksFor 6 = .ok (.isub, 1) := by decide +kernel
theorem d_D_blocksFor_7 : decode b_D_blocksFor 7 = .ok (.sipush 4096, 3) := by decide +kernel
theorem d_D_blocksFor_10 : decode b_D_blocksFor 10 = .ok (.idiv, 1) := by decide +kernel
theorem d_D_blocksFor_11 : decode b_D_blocksFor 11 = .ok (.ireturn, 1) := by decide +kernel
theorem d_M_countTenants_0 : decode b_M_countTenants 0 = .ok (.aload_n 1, 1) := by decide +kernel
theorem d_M_countTenants_1 : decode b_M_countTenants 1 = .ok (.iconst 0, 1) := by decide +kernel
theorem d_M_countTenants_2 : decode b_M_countTenants 2 = .ok (.invokestatic 31, 3) := by decide +kernel
theorem d_M_countTenants_5 : decode b_M_countTenants 5 = .ok (.iconst 0, 1) := by decide +kernel
theorem d_M_countTenants_6 : decode b_M_countTenants 6 = .ok (.istore_n 2, 1) := by decide +kernel
theorem d_M_countTenants_7 : decode b_M_countTenants 7 = .ok (.iload_n 2, 1) := by decide +kernel
theorem d_M_countTenants_8 : decode b_M_countTenants 8 = .ok (.aload_n 0, 1) := by decide +kernel
theorem d_M_countTenants_9 : decode b_M_countTenants 9 = .ok (.getfield 24, 3) := by decide +kernel
theorem d_M_countTenants_12 : decode b_M_countTenants 12 = .ok (.if_icmp .ge 72, 3) := by decide +kernel
theorem d_M_countTenants_15 : decode b_M_countTenants 15 = .ok (.iload_n 2, 1) := by decide +kernel
theorem d_M_countTenants_16 : decode b_M_countTenants 16 = .ok (.sipush 200, 3) := by decide +kernel
theorem d_M_countTenants_19 : decode b_M_countTenants 19 = .ok (.if_icmp .ge 65, 3) := by decide +kernel
theorem d_M_countTenants_22 : decode b_M_countTenants 22 = .ok (.aload_n 0, 1) := by decide +kernel
theorem d_M_countTenants_23 : decode b_M_countTenants 23 = .ok (.getfield 15, 3) := by decide +kernel
theorem d_M_countTenants_26 : decode b_M_countTenants 26 = .ok (.iload_n 2, 1) := by decide +kernel
theorem d_M_countTenants_27 : decode b_M_countTenants 27 = .ok (.iaload, 1) := by decide +kernel
theorem d_M_countTenants_28 : decode b_M_countTenants 28 = .ok (.aload_n 0, 1) := by decide +kernel
theorem d_M_countTenants_29 : decode b_M_countTenants 29 = .ok (.getfield 18, 3) := by decide +kernel
theorem d_M_countTenants_32 : decode b_M_countTenants 32 = .ok (.iload_n 2, 1) := by decide +kernel
theorem d_M_countTenants_33 : decode b_M_countTenants 33 = .ok (.iaload, 1) := by decide +kernel
theorem d_M_countTenants_34 : decode b_M_countTenants 34 = .ok (.invokestatic 44, 3) := by decide +kernel
theorem d_M_countTenants_37 : decode b_M_countTenants 37 = .ok (.iadd, 1) := by decide +kernel
theorem d_M_countTenants_38 : decode b_M_countTenants 38 = .ok (.istore_n 3, 1) := by decide +kernel
theorem d_M_countTenants_39 : decode b_M_countTenants 39 = .ok (.iconst 0, 1) := by decide +kernel
theorem d_M_countTenants_40 : decode b_M_countTenants 40 = .ok (.aload_n 0, 1) := by decide +kernel
theorem d_M_countTenants_41 : decode b_M_countTenants 41 = .ok (.getfield 15, 3) := by decide +kernel
theorem d_M_countTenants_44 : decode b_M_countTenants 44 = .ok (.iload_n 2, 1) := by decide +kernel
theorem d_M_countTenants_45 : decode b_M_countTenants 45 = .ok (.iaload, 1) := by decide +kernel
theorem d_M_countTenants_46 : decode b_M_countTenants 46 = .ok (.invokestatic 48, 3) := by decide +kernel
theorem d_M_countTenants_49 : decode b_M_countTenants 49 = .ok (.istore 4, 2) := by decide +kernel
theorem d_M_countTenants_51 : decode b_M_countTenants 51 = .ok (.iload 4, 2) := by decide +kernel
theorem d_M_countTenants_53 : decode b_M_countTenants 53 = .ok (.iload_n 3, 1) := by decide +kernel
theorem d_M_countTenants_54 : decode b_M_countTenants 54 = .ok (.if_icmp .ge 24, 3) := by decide +kernel
theorem d_M_countTenants_57 : decode b_M_countTenants 57 = .ok (.iload 4, 2) := by decide +kernel
theorem d_M_countTenants_59 : decode b_M_countTenants 59 = .ok (.aload_n 1, 1) := by decide +kernel
theorem d_M_countTenants_60 : decode b_M_countTenants 60 = .ok (.arraylength, 1) := by decide +kernel
theorem d_M_countTenants_61 : decode b_M_countTenants 61 = .ok (.if_icmp .ge 17, 3) := by decide +kernel
theorem d_M_countTenants_64 : decode b_M_countTenants 64 = .ok (.aload_n 1, 1) := by decide +kernel
theorem d_M_countTenants_65 : decode b_M_countTenants 65 = .ok (.iload 4, 2) := by decide +kernel
theorem d_M_countTenants_67 : decode b_M_countTenants 67 = .ok (.dup2, 1) := by decide +kernel
theorem d_M_countTenants_68 : decode b_M_countTenants 68 = .ok (.iaload, 1) := by decide +kernel
theorem d_M_countTenants_69 : decode b_M_countTenants 69 = .ok (.iconst 1, 1) := by decide +kernel
theorem d_M_countTenants_70 : decode b_M_countTenants 70 = .ok (.iadd, 1) := by decide +kernel
theorem d_M_countTenants_71 : decode b_M_countTenants 71 = .ok (.iastore, 1) := by decide +kernel
theorem d_M_countTenants_72 : decode b_M_countTenants 72 = .ok (.iinc 4 1, 3) := by decide +kernel
theorem d_M_countTenants_75 : decode b_M_countTenants 75 = .ok (.goto (-24), 3) := by decide +kernel
theorem d_M_countTenants_78 : decode b_M_countTenants 78 = .ok (.iinc 2 1, 3) := by decide +kernel
theorem d_M_countTenants_81 : decode b_M_countTenants 81 = .ok (.goto (-74), 3) := by decide +kernel
theorem d_M_countTenants_84 : decode b_M_countTenants 84 = .ok (.return_, 1) := by decide +kernel
theorem d_M_storeInt_0 : decode b_M_storeInt 0 = .ok (.iload_n 1, 1) := by decide +kernel
theorem d_M_storeInt_1 : decode b_M_storeInt 1 = .ok (.ifCond .lt 11, 3) := by decide +kernel
theorem d_M_storeInt_4 : decode b_M_storeInt 4 = .ok (.iload_n 1, 1) := by decide +kernel
theorem d_M_storeInt_5 : decode b_M_storeInt 5 = .ok (.aload_n 0, 1) := by decide +kernel
theorem d_M_storeInt_6 : decode b_M_storeInt 6 = .ok (.arraylength, 1) := by decide +kernel
theorem d_M_storeInt_7 : decode b_M_storeInt 7 = .ok (.iconst 4, 1) := by decide +kernel
theorem d_M_storeInt_8 : decode b_M_storeInt 8 = .ok (.isub, 1) := by decide +kernel
theorem d_M_storeInt_9 : decode b_M_storeInt 9 = .ok (.if_icmp .le 4, 3) := by decide +kernel
theorem d_M_storeInt_12 : decode b_M_storeInt 12 = .ok (.return_, 1) := by decide +kernel
theorem d_M_storeInt_13 : decode b_M_storeInt 13 = .ok (.aload_n 0, 1) := by decide +kernel
theorem d_M_storeInt_14 : decode b_M_storeInt 14 = .ok (.iload_n 1, 1) := by decide +kernel
theorem d_M_storeInt_15 : decode b_M_storeInt 15 = .ok (.iload_n 2, 1) := by decide +kernel
theorem d_M_storeInt_16 : decode b_M_storeInt 16 = .ok (.bipush 24, 2) := by decide +kernel
theorem d_M_storeInt_18 : decode b_M_storeInt 18 = .ok (.iushr, 1) := by decide +kernel
theorem d_M_storeInt_19 : decode b_M_storeInt 19 = .ok (.i2b, 1) := by decide +kernel
theorem d_M_storeInt_20 : decode b_M_storeInt 20 = .ok (.bastore, 1) := by decide +kernel
theorem d_M_storeInt_21 : decode b_M_storeInt 21 = .ok (.aload_n 0, 1) := by decide +kernel
theorem d_M_storeInt_22 : decode b_M_storeInt 22 = .ok (.iload_n 1, 1) := by decide +kernel
theorem d_M_storeInt_23 : decode b_M_storeInt 23 = .ok (.iconst 1, 1) := by decide +kernel
theorem d_M_storeInt_24 : decode b_M_storeInt 24 = .ok (.iadd, 1) := by decide +kernel
theorem d_M_storeInt_25 : decode b_M_storeInt 25 = .ok (.iload_n 2, 1) := by decide +kernel
theorem d_M_storeInt_26 : decode b_M_storeInt 26 = .ok (.bipush 16, 2) := by decide +kernel
theorem d_M_storeInt_28 : decode b_M_storeInt 28 = .ok (.iushr, 1) := by decide +kernel
theorem d_M_storeInt_29 : decode b_M_storeInt 29 = .ok (.i2b, 1) := by decide +kernel
theorem d_M_storeInt_30 : decode b_M_storeInt 30 = .ok (.bastore, 1) := by decide +kernel
theorem d_M_storeInt_31 : decode b_M_storeInt 31 = .ok (.aload_n 0, 1) := by decide +kernel
theorem d_M_storeInt_32 : decode b_M_storeInt 32 = .ok (.iload_n 1, 1) := by decide +kernel
theorem d_M_storeInt_33 : decode b_M_storeInt 33 = .ok (.iconst 2, 1) := by decide +kernel
theorem d_M_storeInt_34 : decode b_M_storeInt 34 = .ok (.iadd, 1) := by decide +kernel
theorem d_M_storeInt_35 : decode b_M_storeInt 35 = .ok (.iload_n 2, 1) := by decide +kernel
theorem d_M_storeInt_36 : decode b_M_storeInt 36 = .ok (.bipush 8, 2) := by decide +kernel
theorem d_M_storeInt_38 : decode b_M_storeInt 38 = .ok (.iushr, 1) := by decide +kernel
theorem d_M_storeInt_39 : decode b_M_storeInt 39 = .ok (.i2b, 1) := by decide +kernel
theorem d_M_storeInt_40 : decode b_M_storeInt 40 = .ok (.bastore, 1) := by decide +kernel
theorem d_M_storeInt_41 : decode b_M_storeInt 41 = .ok (.aload_n 0, 1) := by decide +kernel
theorem d_M_storeInt_42 : decode b_M_storeInt 42 = .ok (.iload_n 1, 1) := by decide +kernel
theorem d_M_storeInt_43 : decode b_M_storeInt 43 = .ok (.iconst 3, 1) := by decide +kernel
theorem d_M_storeInt_44 : decode b_M_storeInt 44 = .ok (.iadd, 1) := by decide +kernel
theorem d_M_storeInt_45 : decode b_M_storeInt 45 = .ok (.iload_n 2, 1) := by decide +kernel
theorem d_M_storeInt_46 : decode b_M_storeInt 46 = .ok (.i2b, 1) := by decide +kernel
theorem d_M_storeInt_47 : decode b_M_storeInt 47 = .ok (.bastore, 1) := by decide +kernel
theorem d_M_storeInt_48 : decode b_M_storeInt 48 = .ok (.return_, 1) := by decide +kernel
theorem d_M_store_0 : decode b_M_store 0 = .ok (.aload_n 1, 1) := by decide +kernel
theorem d_M_store_1 : decode b_M_store 1 = .ok (.iconst 0, 1) := by decide +kernel
theorem d_M_store_2 : decode b_M_store 2 = .ok (.aload_n 0, 1) := by decide +kernel
theorem d_M_store_3 : decode b_M_store 3 = .ok (.getfield 28, 3) := by decide +kernel
theorem d_M_store_6 : decode b_M_store 6 = .ok (.invokestatic 54, 3) := by decide +kernel
theorem d_M_store_9 : decode b_M_store 9 = .ok (.aload_n 1, 1) := by decide +kernel
theorem d_M_store_10 : decode b_M_store 10 = .ok (.iconst 4, 1) := by decide +kernel
theorem d_M_store_11 : decode b_M_store 11 = .ok (.aload_n 0, 1) := by decide +kernel
theorem d_M_store_12 : decode b_M_store 12 = .ok (.getfield 24, 3) := by decide +kernel
theorem d_M_store_15 : decode b_M_store 15 = .ok (.invokestatic 54, 3) := by decide +kernel
theorem d_M_store_18 : decode b_M_store 18 = .ok (.iconst 0, 1) := by decide +kernel
theorem d_M_store_19 : decode b_M_store 19 = .ok (.istore_n 2, 1) := by decide +kernel
theorem d_M_store_20 : decode b_M_store 20 = .ok (.iload_n 2, 1) := by decide +kernel
theorem d_M_store_21 : decode b_M_store 21 = .ok (.bipush 24, 2) := by decide +kernel
theorem d_M_store_23 : decode b_M_store 23 = .ok (.if_icmp .ge 25, 3) := by decide +kernel
theorem d_M_store_26 : decode b_M_store 26 = .ok (.aload_n 1, 1) := by decide +kernel
theorem d_M_store_27 : decode b_M_store 27 = .ok (.bipush 8, 2) := by decide +kernel
theorem d_M_store_29 : decode b_M_store 29 = .ok (.iconst 4, 1) := by decide +kernel
theorem d_M_store_30 : decode b_M_store 30 = .ok (.iload_n 2, 1) := by decide +kernel
theorem d_M_store_31 : decode b_M_store 31 = .ok (.imul, 1) := by decide +kernel
theorem d_M_store_32 : decode b_M_store 32 = .ok (.iadd, 1) := by decide +kernel
theorem d_M_store_33 : decode b_M_store 33 = .ok (.aload_n 0, 1) := by decide +kernel
theorem d_M_store_34 : decode b_M_store 34 = .ok (.getfield 21, 3) := by decide +kernel
theorem d_M_store_37 : decode b_M_store 37 = .ok (.iload_n 2, 1) := by decide +kernel
theorem d_M_store_38 : decode b_M_store 38 = .ok (.iaload, 1) := by decide +kernel
theorem d_M_store_39 : decode b_M_store 39 = .ok (.invokestatic 54, 3) := by decide +kernel
theorem d_M_store_42 : decode b_M_store 42 = .ok (.iinc 2 1, 3) := by decide +kernel
theorem d_M_store_45 : decode b_M_store 45 = .ok (.goto (-25), 3) := by decide +kernel
theorem d_M_store_48 : decode b_M_store 48 = .ok (.iconst 0, 1) := by decide +kernel
theorem d_M_store_49 : decode b_M_store 49 = .ok (.istore_n 2, 1) := by decide +kernel
theorem d_M_store_50 : decode b_M_store 50 = .ok (.iload_n 2, 1) := by decide +kernel
theorem d_M_store_51 : decode b_M_store 51 = .ok (.aload_n 0, 1) := by decide +kernel
theorem d_M_store_52 : decode b_M_store 52 = .ok (.getfield 24, 3) := by decide +kernel
theorem d_M_store_55 : decode b_M_store 55 = .ok (.if_icmp .ge 62, 3) := by decide +kernel
theorem d_M_store_58 : decode b_M_store 58 = .ok (.iload_n 2, 1) := by decide +kernel
theorem d_M_store_59 : decode b_M_store 59 = .ok (.sipush 200, 3) := by decide +kernel
theorem d_M_store_62 : decode b_M_store 62 = .ok (.if_icmp .ge 55, 3) := by decide +kernel
theorem d_M_store_65 : decode b_M_store 65 = .ok (.bipush 104, 2) := by decide +kernel
theorem d_M_store_67 : decode b_M_store 67 = .ok (.bipush 12, 2) := by decide +kernel
theorem d_M_store_69 : decode b_M_store 69 = .ok (.iload_n 2, 1) := by decide +kernel
theorem d_M_store_70 : decode b_M_store 70 = .ok (.imul, 1) := by decide +kernel
theorem d_M_store_71 : decode b_M_store 71 = .ok (.iadd, 1) := by decide +kernel
theorem d_M_store_72 : decode b_M_store 72 = .ok (.istore_n 3, 1) := by decide +kernel
theorem d_M_store_73 : decode b_M_store 73 = .ok (.aload_n 1, 1) := by decide +kernel
theorem d_M_store_74 : decode b_M_store 74 = .ok (.iload_n 3, 1) := by decide +kernel
theorem d_M_store_75 : decode b_M_store 75 = .ok (.aload_n 0, 1) := by decide +kernel
theorem d_M_store_76 : decode b_M_store 76 = .ok (.getfield 11, 3) := by decide +kernel
theorem d_M_store_79 : decode b_M_store 79 = .ok (.iload_n 2, 1) := by decide +kernel
theorem d_M_store_80 : decode b_M_store 80 = .ok (.iaload, 1) := by decide +kernel
theorem d_M_store_81 : decode b_M_store 81 = .ok (.invokestatic 54, 3) := by decide +kernel
theorem d_M_store_84 : decode b_M_store 84 = .ok (.aload_n 1, 1) := by decide +kernel
theorem d_M_store_85 : decode b_M_store 85 = .ok (.iload_n 3, 1) := by decide +kernel
theorem d_M_store_86 : decode b_M_store 86 = .ok (.iconst 4, 1) := by decide +kernel
theorem d_M_store_87 : decode b_M_store 87 = .ok (.iadd, 1) := by decide +kernel
theorem d_M_store_88 : decode b_M_store 88 = .ok (.aload_n 0, 1) := by decide +kernel
theorem d_M_store_89 : decode b_M_store 89 = .ok (.getfield 15, 3) := by decide +kernel
theorem d_M_store_92 : decode b_M_store 92 = .ok (.iload_n 2, 1) := by decide +kernel
theorem d_M_store_93 : decode b_M_store 93 = .ok (.iaload, 1) := by decide +kernel
theorem d_M_store_94 : decode b_M_store 94 = .ok (.invokestatic 54, 3) := by decide +kernel
theorem d_M_store_97 : decode b_M_store 97 = .ok (.aload_n 1, 1) := by decide +kernel
theorem d_M_store_98 : decode b_M_store 98 = .ok (.iload_n 3, 1) := by decide +kernel
theorem d_M_store_99 : decode b_M_store 99 = .ok (.bipush 8, 2) := by decide +kernel
theorem d_M_store_101 : decode b_M_store 101 = .ok (.iadd, 1) := by decide +kernel
theorem d_M_store_102 : decode b_M_store 102 = .ok (.aload_n 0, 1) := by decide +kernel
theorem d_M_store_103 : decode b_M_store 103 = .ok (.getfield 18, 3) := by decide +kernel
theorem d_M_store_106 : decode b_M_store 106 = .ok (.iload_n 2, 1) := by decide +kernel
theorem d_M_store_107 : decode b_M_store 107 = .ok (.iaload, 1) := by decide +kernel
theorem d_M_store_108 : decode b_M_store 108 = .ok (.invokestatic 54, 3) := by decide +kernel
theorem d_M_store_111 : decode b_M_store 111 = .ok (.iinc 2 1, 3) := by decide +kernel
theorem d_M_store_114 : decode b_M_store 114 = .ok (.goto (-64), 3) := by decide +kernel
theorem d_M_store_117 : decode b_M_store 117 = .ok (.return_, 1) := by decide +kernel
theorem d_M_load_0 : decode b_M_load 0 = .ok (.iload_n 2, 1) := by decide +kernel
theorem d_M_load_1 : decode b_M_load 1 = .ok (.sipush 4096, 3) := by decide +kernel
theorem d_M_load_4 : decode b_M_load 4 = .ok (.imul, 1) := by decide +kernel
theorem d_M_load_5 : decode b_M_load 5 = .ok (.istore_n 3, 1) := by decide +kernel
theorem d_M_load_6 : decode b_M_load 6 = .ok (.aload_n 0, 1) := by decide +kernel
theorem d_M_load_7 : decode b_M_load 7 = .ok (.invokevirtual 37, 3) := by decide +kernel
theorem d_M_load_10 : decode b_M_load 10 = .ok (.aload_n 0, 1) := by decide +kernel
theorem d_M_load_11 : decode b_M_load 11 = .ok (.aload_n 1, 1) := by decide +kernel
theorem d_M_load_12 : decode b_M_load 12 = .ok (.iload_n 3, 1) := by decide +kernel
theorem d_M_load_13 : decode b_M_load 13 = .ok (.iconst 0, 1) := by decide +kernel
theorem d_M_load_14 : decode b_M_load 14 = .ok (.iadd, 1) := by decide +kernel
theorem d_M_load_15 : decode b_M_load 15 = .ok (.invokevirtual 58, 3) := by decide +kernel
theorem d_M_load_18 : decode b_M_load 18 = .ok (.putfield 28, 3) := by decide +kernel
theorem d_M_load_21 : decode b_M_load 21 = .ok (.iconst 0, 1) := by decide +kernel
theorem d_M_load_22 : decode b_M_load 22 = .ok (.istore 4, 2) := by decide +kernel
theorem d_M_load_24 : decode b_M_load 24 = .ok (.iload 4, 2) := by decide +kernel
theorem d_M_load_26 : decode b_M_load 26 = .ok (.bipush 24, 2) := by decide +kernel
theorem d_M_load_28 : decode b_M_load 28 = .ok (.if_icmp .ge 29, 3) := by decide +kernel
theorem d_M_load_31 : decode b_M_load 31 = .ok (.aload_n 0, 1) := by decide +kernel
theorem d_M_load_32 : decode b_M_load 32 = .ok (.getfield 21, 3) := by decide +kernel
theorem d_M_load_35 : decode b_M_load 35 = .ok (.iload 4, 2) := by decide +kernel
theorem d_M_load_37 : decode b_M_load 37 = .ok (.aload_n 1, 1) := by decide +kernel
theorem d_M_load_38 : decode b_M_load 38 = .ok (.iload_n 3, 1) := by decide +kernel
theorem d_M_load_39 : decode b_M_load 39 = .ok (.bipush 8, 2) := by decide +kernel
theorem d_M_load_41 : decode b_M_load 41 = .ok (.iadd, 1) := by decide +kernel
theorem d_M_load_42 : decode b_M_load 42 = .ok (.iconst 4, 1) := by decide +kernel
theorem d_M_load_43 : decode b_M_load 43 = .ok (.iload 4, 2) := by decide +kernel
theorem d_M_load_45 : decode b_M_load 45 = .ok (.imul, 1) := by decide +kernel
theorem d_M_load_46 : decode b_M_load 46 = .ok (.iadd, 1) := by decide +kernel
theorem d_M_load_47 : decode b_M_load 47 = .ok (.invokevirtual 58, 3) := by decide +kernel
theorem d_M_load_50 : decode b_M_load 50 = .ok (.iastore, 1) := by decide +kernel
theorem d_M_load_51 : decode b_M_load 51 = .ok (.iinc 4 1, 3) := by decide +kernel
theorem d_M_load_54 : decode b_M_load 54 = .ok (.goto (-30), 3) := by decide +kernel
theorem d_M_load_57 : decode b_M_load 57 = .ok (.sipush 200, 3) := by decide +kernel
theorem d_M_load_60 : decode b_M_load 60 = .ok (.aload_n 1, 1) := by decide +kernel
theorem d_M_load_61 : decode b_M_load 61 = .ok (.iload_n 3, 1) := by decide +kernel
theorem d_M_load_62 : decode b_M_load 62 = .ok (.iconst 4, 1) := by decide +kernel
theorem d_M_load_63 : decode b_M_load 63 = .ok (.iadd, 1) := by decide +kernel
theorem d_M_load_64 : decode b_M_load 64 = .ok (.invokevirtual 58, 3) := by decide +kernel
theorem d_M_load_67 : decode b_M_load 67 = .ok (.invokestatic 63, 3) := by decide +kernel
theorem d_M_load_70 : decode b_M_load 70 = .ok (.istore 4, 2) := by decide +kernel
theorem d_M_load_72 : decode b_M_load 72 = .ok (.iconst 0, 1) := by decide +kernel
theorem d_M_load_73 : decode b_M_load 73 = .ok (.istore 5, 2) := by decide +kernel
theorem d_M_load_75 : decode b_M_load 75 = .ok (.iload 5, 2) := by decide +kernel
theorem d_M_load_77 : decode b_M_load 77 = .ok (.iload 4, 2) := by decide +kernel
theorem d_M_load_79 : decode b_M_load 79 = .ok (.if_icmp .ge 49, 3) := by decide +kernel
theorem d_M_load_82 : decode b_M_load 82 = .ok (.iload_n 3, 1) := by decide +kernel
theorem d_M_load_83 : decode b_M_load 83 = .ok (.bipush 104, 2) := by decide +kernel
theorem d_M_load_85 : decode b_M_load 85 = .ok (.iadd, 1) := by decide +kernel
theorem d_M_load_86 : decode b_M_load 86 = .ok (.bipush 12, 2) := by decide +kernel
theorem d_M_load_88 : decode b_M_load 88 = .ok (.iload 5, 2) := by decide +kernel
theorem d_M_load_90 : decode b_M_load 90 = .ok (.imul, 1) := by decide +kernel
theorem d_M_load_91 : decode b_M_load 91 = .ok (.iadd, 1) := by decide +kernel
theorem d_M_load_92 : decode b_M_load 92 = .ok (.istore 6, 2) := by decide +kernel
theorem d_M_load_94 : decode b_M_load 94 = .ok (.aload_n 0, 1) := by decide +kernel
theorem d_M_load_95 : decode b_M_load 95 = .ok (.aload_n 1, 1) := by decide +kernel
theorem d_M_load_96 : decode b_M_load 96 = .ok (.iload 6, 2) := by decide +kernel
theorem d_M_load_98 : decode b_M_load 98 = .ok (.invokevirtual 58, 3) := by decide +kernel
theorem d_M_load_101 : decode b_M_load 101 = .ok (.aload_n 1, 1) := by decide +kernel
theorem d_M_load_102 : decode b_M_load 102 = .ok (.iload 6, 2) := by decide +kernel
theorem d_M_load_104 : decode b_M_load 104 = .ok (.iconst 4, 1) := by decide +kernel
theorem d_M_load_105 : decode b_M_load 105 = .ok (.iadd, 1) := by decide +kernel
theorem d_M_load_106 : decode b_M_load 106 = .ok (.invokevirtual 58, 3) := by decide +kernel
theorem d_M_load_109 : decode b_M_load 109 = .ok (.aload_n 1, 1) := by decide +kernel
theorem d_M_load_110 : decode b_M_load 110 = .ok (.iload 6, 2) := by decide +kernel
theorem d_M_load_112 : decode b_M_load 112 = .ok (.bipush 8, 2) := by decide +kernel
theorem d_M_load_114 : decode b_M_load 114 = .ok (.iadd, 1) := by decide +kernel
theorem d_M_load_115 : decode b_M_load 115 = .ok (.invokevirtual 58, 3) := by decide +kernel
theorem d_M_load_118 : decode b_M_load 118 = .ok (.invokevirtual 40, 3) := by decide +kernel
theorem d_M_load_121 : decode b_M_load 121 = .ok (.pop, 1) := by decide +kernel
theorem d_M_load_122 : decode b_M_load 122 = .ok (.iinc 5 1, 3) := by decide +kernel
theorem d_M_load_125 : decode b_M_load 125 = .ok (.goto (-50), 3) := by decide +kernel
theorem d_M_load_128 : decode b_M_load 128 = .ok (.return_, 1) := by decide +kernel
theorem d_D_freeBlocks_0 : decode b_D_freeBlocks 0 = .ok (.aload_n 0, 1) := by decide +kernel
theorem d_D_freeBlocks_1 : decode b_D_freeBlocks 1 = .ok (.getfield 48, 3) := by decide +kernel
theorem d_D_freeBlocks_4 : decode b_D_freeBlocks 4 = .ok (.aload_n 0, 1) := by decide +kernel
theorem d_D_freeBlocks_5 : decode b_D_freeBlocks 5 = .ok (.getfield 42, 3) := by decide +kernel
theorem d_D_freeBlocks_8 : decode b_D_freeBlocks 8 = .ok (.invokevirtual 170, 3) := by decide +kernel
theorem d_D_freeBlocks_11 : decode b_D_freeBlocks 11 = .ok (.iconst 0, 1) := by decide +kernel
theorem d_D_freeBlocks_12 : decode b_D_freeBlocks 12 = .ok (.istore_n 1, 1) := by decide +kernel
theorem d_D_freeBlocks_13 : decode b_D_freeBlocks 13 = .ok (.iconst 2, 1) := by decide +kernel
theorem d_D_freeBlocks_14 : decode b_D_freeBlocks 14 = .ok (.istore_n 2, 1) := by decide +kernel
theorem d_D_freeBlocks_15 : decode b_D_freeBlocks 15 = .ok (.iload_n 2, 1) := by decide +kernel
theorem d_D_freeBlocks_16 : decode b_D_freeBlocks 16 = .ok (.aload_n 0, 1) := by decide +kernel
theorem d_D_freeBlocks_17 : decode b_D_freeBlocks 17 = .ok (.getfield 42, 3) := by decide +kernel
theorem d_D_freeBlocks_20 : decode b_D_freeBlocks 20 = .ok (.arraylength, 1) := by decide +kernel
theorem d_D_freeBlocks_21 : decode b_D_freeBlocks 21 = .ok (.if_icmp .ge 21, 3) := by decide +kernel
theorem d_D_freeBlocks_24 : decode b_D_freeBlocks 24 = .ok (.aload_n 0, 1) := by decide +kernel
theorem d_D_freeBlocks_25 : decode b_D_freeBlocks 25 = .ok (.getfield 42, 3) := by decide +kernel
theorem d_D_freeBlocks_28 : decode b_D_freeBlocks 28 = .ok (.iload_n 2, 1) := by decide +kernel
theorem d_D_freeBlocks_29 : decode b_D_freeBlocks 29 = .ok (.iaload, 1) := by decide +kernel
theorem d_D_freeBlocks_30 : decode b_D_freeBlocks 30 = .ok (.ifCond .ne 6, 3) := by decide +kernel
theorem d_D_freeBlocks_33 : decode b_D_freeBlocks 33 = .ok (.iinc 1 1, 3) := by decide +kernel
theorem d_D_freeBlocks_36 : decode b_D_freeBlocks 36 = .ok (.iinc 2 1, 3) := by decide +kernel
theorem d_D_freeBlocks_39 : decode b_D_freeBlocks 39 = .ok (.goto (-24), 3) := by decide +kernel
theorem d_D_freeBlocks_42 : decode b_D_freeBlocks 42 = .ok (.iload_n 1, 1) := by decide +kernel
theorem d_D_freeBlocks_43 : decode b_D_freeBlocks 43 = .ok (.ireturn, 1) := by decide +kernel
theorem d_D_firstFreeRow_0 : decode b_D_firstFreeRow 0 = .ok (.aload_n 0, 1) := by decide +kernel
theorem d_D_firstFreeRow_1 : decode b_D_firstFreeRow 1 = .ok (.getfield 48, 3) := by decide +kernel
theorem d_D_firstFreeRow_4 : decode b_D_firstFreeRow 4 = .ok (.aload_n 0, 1) := by decide +kernel
theorem d_D_firstFreeRow_5 : decode b_D_firstFreeRow 5 = .ok (.getfield 42, 3) := by decide +kernel
theorem d_D_firstFreeRow_8 : decode b_D_firstFreeRow 8 = .ok (.invokevirtual 170, 3) := by decide +kernel
theorem d_D_firstFreeRow_11 : decode b_D_firstFreeRow 11 = .ok (.iconst 0, 1) := by decide +kernel
theorem d_D_firstFreeRow_12 : decode b_D_firstFreeRow 12 = .ok (.istore_n 2, 1) := by decide +kernel
theorem d_D_firstFreeRow_13 : decode b_D_firstFreeRow 13 = .ok (.iconst 2, 1) := by decide +kernel
theorem d_D_firstFreeRow_14 : decode b_D_firstFreeRow 14 = .ok (.istore_n 3, 1) := by decide +kernel
theorem d_D_firstFreeRow_15 : decode b_D_firstFreeRow 15 = .ok (.iload_n 3, 1) := by decide +kernel
theorem d_D_firstFreeRow_16 : decode b_D_firstFreeRow 16 = .ok (.aload_n 0, 1) := by decide +kernel
theorem d_D_firstFreeRow_17 : decode b_D_firstFreeRow 17 = .ok (.getfield 42, 3) := by decide +kernel
theorem d_D_firstFreeRow_20 : decode b_D_firstFreeRow 20 = .ok (.arraylength, 1) := by decide +kernel
theorem d_D_firstFreeRow_21 : decode b_D_firstFreeRow 21 = .ok (.if_icmp .ge 37, 3) := by decide +kernel
theorem d_D_firstFreeRow_24 : decode b_D_firstFreeRow 24 = .ok (.aload_n 0, 1) := by decide +kernel
theorem d_D_firstFreeRow_25 : decode b_D_firstFreeRow 25 = .ok (.getfield 42, 3) := by decide +kernel
theorem d_D_firstFreeRow_28 : decode b_D_firstFreeRow 28 = .ok (.iload_n 3, 1) := by decide +kernel
theorem d_D_firstFreeRow_29 : decode b_D_firstFreeRow 29 = .ok (.iaload, 1) := by decide +kernel
theorem d_D_firstFreeRow_30 : decode b_D_firstFreeRow 30 = .ok (.ifCond .ne 9, 3) := by decide +kernel
theorem d_D_firstFreeRow_33 : decode b_D_firstFreeRow 33 = .ok (.iload_n 2, 1) := by decide +kernel
theorem d_D_firstFreeRow_34 : decode b_D_firstFreeRow 34 = .ok (.iconst 1, 1) := by decide +kernel
theorem d_D_firstFreeRow_35 : decode b_D_firstFreeRow 35 = .ok (.iadd, 1) := by decide +kernel
theorem d_D_firstFreeRow_36 : decode b_D_firstFreeRow 36 = .ok (.goto 4, 3) := by decide +kernel
theorem d_D_firstFreeRow_39 : decode b_D_firstFreeRow 39 = .ok (.iconst 0, 1) := by decide +kernel
theorem d_D_firstFreeRow_40 : decode b_D_firstFreeRow 40 = .ok (.istore_n 2, 1) := by decide +kernel
theorem d_D_firstFreeRow_41 : decode b_D_firstFreeRow 41 = .ok (.iload_n 2, 1) := by decide +kernel
theorem d_D_firstFreeRow_42 : decode b_D_firstFreeRow 42 = .ok (.iload_n 1, 1) := by decide +kernel
theorem d_D_firstFreeRow_43 : decode b_D_firstFreeRow 43 = .ok (.if_icmp .ne 9, 3) := by decide +kernel
theorem d_D_firstFreeRow_46 : decode b_D_firstFreeRow 46 = .ok (.iload_n 3, 1) := by decide +kernel
theorem d_D_firstFreeRow_47 : decode b_D_firstFreeRow 47 = .ok (.iload_n 1, 1) := by decide +kernel
theorem d_D_firstFreeRow_48 : decode b_D_firstFreeRow 48 = .ok (.isub, 1) := by decide +kernel
theorem d_D_firstFreeRow_49 : decode b_D_firstFreeRow 49 = .ok (.iconst 1, 1) := by decide +kernel
theorem d_D_firstFreeRow_50 : decode b_D_firstFreeRow 50 = .ok (.iadd, 1) := by decide +kernel
theorem d_D_firstFreeRow_51 : decode b_D_firstFreeRow 51 = .ok (.ireturn, 1) := by decide +kernel
theorem d_D_firstFreeRow_52 : decode b_D_firstFreeRow 52 = .ok (.iinc 3 1, 3) := by decide +kernel
theorem d_D_firstFreeRow_55 : decode b_D_firstFreeRow 55 = .ok (.goto (-40), 3) := by decide +kernel
theorem d_D_firstFreeRow_58 : decode b_D_firstFreeRow 58 = .ok (.iconst (-1), 1) := by decide +kernel
theorem d_D_firstFreeRow_59 : decode b_D_firstFreeRow 59 = .ok (.ireturn, 1) := by decide +kernel
theorem d_D_makeNextCount_0 : decode b_D_makeNextCount 0 = .ok (.aload_n 0, 1) := by decide +kernel
theorem d_D_makeNextCount_1 : decode b_D_makeNextCount 1 = .ok (.getfield 48, 3) := by decide +kernel
theorem d_D_makeNextCount_4 : decode b_D_makeNextCount 4 = .ok (.astore_n 1, 1) := by decide +kernel
theorem d_D_makeNextCount_5 : decode b_D_makeNextCount 5 = .ok (.aload_n 0, 1) := by decide +kernel
theorem d_D_makeNextCount_6 : decode b_D_makeNextCount 6 = .ok (.aload_n 0, 1) := by decide +kernel
theorem d_D_makeNextCount_7 : decode b_D_makeNextCount 7 = .ok (.getfield 52, 3) := by decide +kernel
theorem d_D_makeNextCount_10 : decode b_D_makeNextCount 10 = .ok (.putfield 48, 3) := by decide +kernel
theorem d_D_makeNextCount_13 : decode b_D_makeNextCount 13 = .ok (.aload_n 0, 1) := by decide +kernel
theorem d_D_makeNextCount_14 : decode b_D_makeNextCount 14 = .ok (.aload_n 1, 1) := by decide +kernel
theorem d_D_makeNextCount_15 : decode b_D_makeNextCount 15 = .ok (.putfield 52, 3) := by decide +kernel
theorem d_D_makeNextCount_18 : decode b_D_makeNextCount 18 = .ok (.return_, 1) := by decide +kernel
theorem d_D_forget_0 : decode b_D_forget 0 = .ok (.aload_n 0, 1) := by decide +kernel
theorem d_D_forget_1 : decode b_D_forget 1 = .ok (.getfield 30, 3) := by decide +kernel
theorem d_D_forget_4 : decode b_D_forget 4 = .ok (.iconst 0, 1) := by decide +kernel
theorem d_D_forget_5 : decode b_D_forget 5 = .ok (.putfield 79, 3) := by decide +kernel
theorem d_D_forget_8 : decode b_D_forget 8 = .ok (.aload_n 0, 1) := by decide +kernel
theorem d_D_forget_9 : decode b_D_forget 9 = .ok (.getfield 48, 3) := by decide +kernel
theorem d_D_forget_12 : decode b_D_forget 12 = .ok (.invokevirtual 184, 3) := by decide +kernel
theorem d_D_forget_15 : decode b_D_forget 15 = .ok (.aload_n 0, 1) := by decide +kernel
theorem d_D_forget_16 : decode b_D_forget 16 = .ok (.getfield 34, 3) := by decide +kernel
theorem d_D_forget_19 : decode b_D_forget 19 = .ok (.iconst 0, 1) := by decide +kernel
theorem d_D_forget_20 : decode b_D_forget 20 = .ok (.invokestatic 187, 3) := by decide +kernel
theorem d_D_forget_23 : decode b_D_forget 23 = .ok (.return_, 1) := by decide +kernel
theorem d_D_carryOut_0 : decode b_D_carryOut 0 = .ok (.aload_n 0, 1) := by decide +kernel
theorem d_D_carryOut_1 : decode b_D_carryOut 1 = .ok (.getfield 30, 3) := by decide +kernel
theorem d_D_carryOut_4 : decode b_D_carryOut 4 = .ok (.getfield 79, 3) := by decide +kernel
theorem d_D_carryOut_7 : decode b_D_carryOut 7 = .ok (.invokestatic 101, 3) := by decide +kernel
theorem d_D_carryOut_10 : decode b_D_carryOut 10 = .ok (.istore_n 2, 1) := by decide +kernel
theorem d_D_carryOut_11 : decode b_D_carryOut 11 = .ok (.iconst 0, 1) := by decide +kernel
theorem d_D_carryOut_12 : decode b_D_carryOut 12 = .ok (.istore_n 3, 1) := by decide +kernel
theorem d_D_carryOut_13 : decode b_D_carryOut 13 = .ok (.iload_n 3, 1) := by decide +kernel
theorem d_D_carryOut_14 : decode b_D_carryOut 14 = .ok (.iload_n 2, 1) := by decide +kernel
theorem d_D_carryOut_15 : decode b_D_carryOut 15 = .ok (.if_icmp .ge 41, 3) := by decide +kernel
theorem d_D_carryOut_18 : decode b_D_carryOut 18 = .ok (.aload_n 0, 1) := by decide +kernel
theorem d_D_carryOut_19 : decode b_D_carryOut 19 = .ok (.getfield 23, 3) := by decide +kernel
theorem d_D_carryOut_22 : decode b_D_carryOut 22 = .ok (.iload_n 1, 1) := by decide +kernel
theorem d_D_carryOut_23 : decode b_D_carryOut 23 = .ok (.iload_n 3, 1) := by decide +kernel
theorem d_D_carryOut_24 : decode b_D_carryOut 24 = .ok (.iadd, 1) := by decide +kernel
theorem d_D_carryOut_25 : decode b_D_carryOut 25 = .ok (.aload_n 0, 1) := by decide +kernel
theorem d_D_carryOut_26 : decode b_D_carryOut 26 = .ok (.getfield 30, 3) := by decide +kernel
theorem d_D_carryOut_29 : decode b_D_carryOut 29 = .ok (.getfield 173, 3) := by decide +kernel
theorem d_D_carryOut_32 : decode b_D_carryOut 32 = .ok (.iload_n 3, 1) := by decide +kernel
theorem d_D_carryOut_33 : decode b_D_carryOut 33 = .ok (.sipush 4096, 3) := by decide +kernel
theorem d_D_carryOut_36 : decode b_D_carryOut 36 = .ok (.imul, 1) := by decide +kernel
theorem d_D_carryOut_37 : decode b_D_carryOut 37 = .ok (.invokevirtual 176, 3) := by decide +kernel
theorem d_D_carryOut_40 : decode b_D_carryOut 40 = .ok (.ifCond .ne 10, 3) := by decide +kernel
theorem d_D_carryOut_43 : decode b_D_carryOut 43 = .ok (.aload_n 0, 1) := by decide +kernel
theorem d_D_carryOut_44 : decode b_D_carryOut 44 = .ok (.invokevirtual 141, 3) := by decide +kernel
theorem d_D_carryOut_47 : decode b_D_carryOut 47 = .ok (.bipush (-3), 2) := by decide +kernel
theorem d_D_carryOut_49 : decode b_D_carryOut 49 = .ok (.ireturn, 1) := by decide +kernel
theorem d_D_carryOut_50 : decode b_D_carryOut 50 = .ok (.iinc 3 1, 3) := by decide +kernel
theorem d_D_carryOut_53 : decode b_D_carryOut 53 = .ok (.goto (-40), 3) := by decide +kernel
theorem d_D_carryOut_56 : decode b_D_carryOut 56 = .ok (.aload_n 0, 1) := by decide +kernel
theorem d_D_carryOut_57 : decode b_D_carryOut 57 = .ok (.getfield 52, 3) := by decide +kernel
theorem d_D_carryOut_60 : decode b_D_carryOut 60 = .ok (.aload_n 0, 1) := by decide +kernel
theorem d_D_carryOut_61 : decode b_D_carryOut 61 = .ok (.getfield 38, 3) := by decide +kernel
theorem d_D_carryOut_64 : decode b_D_carryOut 64 = .ok (.invokevirtual 180, 3) := by decide +kernel
theorem d_D_carryOut_67 : decode b_D_carryOut 67 = .ok (.aload_n 0, 1) := by decide +kernel
theorem d_D_carryOut_68 : decode b_D_carryOut 68 = .ok (.getfield 23, 3) := by decide +kernel
theorem d_D_carryOut_71 : decode b_D_carryOut 71 = .ok (.aload_n 0, 1) := by decide +kernel
theorem d_D_carryOut_72 : decode b_D_carryOut 72 = .ok (.getfield 52, 3) := by decide +kernel
theorem d_D_carryOut_75 : decode b_D_carryOut 75 = .ok (.getfield 148, 3) := by decide +kernel
theorem d_D_carryOut_78 : decode b_D_carryOut 78 = .ok (.iconst 1, 1) := by decide +kernel
theorem d_D_carryOut_79 : decode b_D_carryOut 79 = .ok (.iand, 1) := by decide +kernel
theorem d_D_carryOut_80 : decode b_D_carryOut 80 = .ok (.aload_n 0, 1) := by decide +kernel
theorem d_D_carryOut_81 : decode b_D_carryOut 81 = .ok (.getfield 38, 3) := by decide +kernel
theorem d_D_carryOut_84 : decode b_D_carryOut 84 = .ok (.iconst 0, 1) := by decide +kernel
theorem d_D_carryOut_85 : decode b_D_carryOut 85 = .ok (.invokevirtual 176, 3) := by decide +kernel
theorem d_D_carryOut_88 : decode b_D_carryOut 88 = .ok (.ifCond .ne 10, 3) := by decide +kernel
theorem d_D_carryOut_91 : decode b_D_carryOut 91 = .ok (.aload_n 0, 1) := by decide +kernel
theorem d_D_carryOut_92 : decode b_D_carryOut 92 = .ok (.invokevirtual 141, 3) := by decide +kernel
theorem d_D_carryOut_95 : decode b_D_carryOut 95 = .ok (.bipush (-3), 2) := by decide +kernel
theorem d_D_carryOut_97 : decode b_D_carryOut 97 = .ok (.ireturn, 1) := by decide +kernel
theorem d_D_carryOut_98 : decode b_D_carryOut 98 = .ok (.aload_n 0, 1) := by decide +kernel
theorem d_D_carryOut_99 : decode b_D_carryOut 99 = .ok (.invokevirtual 151, 3) := by decide +kernel
theorem d_D_carryOut_102 : decode b_D_carryOut 102 = .ok (.aload_n 0, 1) := by decide +kernel
theorem d_D_carryOut_103 : decode b_D_carryOut 103 = .ok (.getfield 30, 3) := by decide +kernel
theorem d_D_carryOut_106 : decode b_D_carryOut 106 = .ok (.iconst 0, 1) := by decide +kernel
theorem d_D_carryOut_107 : decode b_D_carryOut 107 = .ok (.putfield 79, 3) := by decide +kernel
theorem d_D_carryOut_110 : decode b_D_carryOut 110 = .ok (.iload_n 2, 1) := by decide +kernel
theorem d_D_carryOut_111 : decode b_D_carryOut 111 = .ok (.iconst 1, 1) := by decide +kernel
theorem d_D_carryOut_112 : decode b_D_carryOut 112 = .ok (.iadd, 1) := by decide +kernel
theorem d_D_carryOut_113 : decode b_D_carryOut 113 = .ok (.ireturn, 1) := by decide +kernel
theorem d_D_drop_0 : decode b_D_drop 0 = .ok (.aload_n 0, 1) := by decide +kernel
theorem d_D_drop_1 : decode b_D_drop 1 = .ok (.getfield 23, 3) := by decide +kernel
theorem d_D_drop_4 : decode b_D_drop 4 = .ok (.getfield 62, 3) := by decide +kernel
theorem d_D_drop_7 : decode b_D_drop 7 = .ok (.ifCond .eq 13, 3) := by decide +kernel
theorem d_D_drop_10 : decode b_D_drop 10 = .ok (.new 70, 3) := by decide +kernel
theorem d_D_drop_13 : decode b_D_drop 13 = .ok (.dup, 1) := by decide +kernel
theorem d_D_drop_14 : decode b_D_drop 14 = .ok (.ldc 86, 2) := by decide +kernel
theorem d_D_drop_16 : decode b_D_drop 16 = .ok (.invokespecial 74, 3) := by decide +kernel
theorem d_D_drop_19 : decode b_D_drop 19 = .ok (.athrow, 1) := by decide +kernel
theorem d_D_drop_20 : decode b_D_drop 20 = .ok (.aload_n 0, 1) := by decide +kernel
theorem d_D_drop_21 : decode b_D_drop 21 = .ok (.getfield 30, 3) := by decide +kernel
theorem d_D_drop_24 : decode b_D_drop 24 = .ok (.getfield 79, 3) := by decide +kernel
theorem d_D_drop_27 : decode b_D_drop 27 = .ok (.istore_n 1, 1) := by decide +kernel
theorem d_D_drop_28 : decode b_D_drop 28 = .ok (.aload_n 0, 1) := by decide +kernel
theorem d_D_drop_29 : decode b_D_drop 29 = .ok (.getfield 30, 3) := by decide +kernel
theorem d_D_drop_32 : decode b_D_drop 32 = .ok (.iconst 0, 1) := by decide +kernel
theorem d_D_drop_33 : decode b_D_drop 33 = .ok (.putfield 79, 3) := by decide +kernel
theorem d_D_drop_36 : decode b_D_drop 36 = .ok (.iload_n 1, 1) := by decide +kernel
theorem d_D_drop_37 : decode b_D_drop 37 = .ok (.ireturn, 1) := by decide +kernel
theorem d_D_wish_0 : decode b_D_wish 0 = .ok (.iload_n 1, 1) := by decide +kernel
theorem d_D_wish_1 : decode b_D_wish 1 = .ok (.ifCond .lt 9, 3) := by decide +kernel
theorem d_D_wish_4 : decode b_D_wish 4 = .ok (.iload_n 1, 1) := by decide +kernel
theorem d_D_wish_5 : decode b_D_wish 5 = .ok (.bipush 24, 2) := by decide +kernel
theorem d_D_wish_7 : decode b_D_wish 7 = .ok (.if_icmp .lt 13, 3) := by decide +kernel
theorem d_D_wish_10 : decode b_D_wish 10 = .ok (.new 55, 3) := by decide +kernel
theorem d_D_wish_13 : decode b_D_wish 13 = .ok (.dup, 1) := by decide +kernel
theorem d_D_wish_14 : decode b_D_wish 14 = .ok (.ldc 88, 2) := by decide +kernel
theorem d_D_wish_16 : decode b_D_wish 16 = .ok (.invokespecial 59, 3) := by decide +kernel
theorem d_D_wish_19 : decode b_D_wish 19 = .ok (.athrow, 1) := by decide +kernel
theorem d_D_wish_20 : decode b_D_wish 20 = .ok (.aload_n 0, 1) := by decide +kernel
theorem d_D_wish_21 : decode b_D_wish 21 = .ok (.getfield 23, 3) := by decide +kernel
theorem d_D_wish_24 : decode b_D_wish 24 = .ok (.getfield 62, 3) := by decide +kernel
theorem d_D_wish_27 : decode b_D_wish 27 = .ok (.ifCond .eq 13, 3) := by decide +kernel
theorem d_D_wish_30 : decode b_D_wish 30 = .ok (.new 70, 3) := by decide +kernel
theorem d_D_wish_33 : decode b_D_wish 33 = .ok (.dup, 1) := by decide +kernel
theorem d_D_wish_34 : decode b_D_wish 34 = .ok (.ldc 86, 2) := by decide +kernel
theorem d_D_wish_36 : decode b_D_wish 36 = .ok (.invokespecial 74, 3) := by decide +kernel
theorem d_D_wish_39 : decode b_D_wish 39 = .ok (.athrow, 1) := by decide +kernel
theorem d_D_wish_40 : decode b_D_wish 40 = .ok (.aload_n 0, 1) := by decide +kernel
theorem d_D_wish_41 : decode b_D_wish 41 = .ok (.getfield 34, 3) := by decide +kernel
theorem d_D_wish_44 : decode b_D_wish 44 = .ok (.iload_n 1, 1) := by decide +kernel
theorem d_D_wish_45 : decode b_D_wish 45 = .ok (.iaload, 1) := by decide +kernel
theorem d_D_wish_46 : decode b_D_wish 46 = .ok (.istore_n 3, 1) := by decide +kernel
theorem d_D_wish_47 : decode b_D_wish 47 = .ok (.aload_n 0, 1) := by decide +kernel
theorem d_D_wish_48 : decode b_D_wish 48 = .ok (.getfield 34, 3) := by decide +kernel
theorem d_D_wish_51 : decode b_D_wish 51 = .ok (.iload_n 1, 1) := by decide +kernel
theorem d_D_wish_52 : decode b_D_wish 52 = .ok (.iload_n 2, 1) := by decide +kernel
theorem d_D_wish_53 : decode b_D_wish 53 = .ok (.iastore, 1) := by decide +kernel
theorem d_D_wish_54 : decode b_D_wish 54 = .ok (.iload_n 3, 1) := by decide +kernel
theorem d_D_wish_55 : decode b_D_wish 55 = .ok (.ireturn, 1) := by decide +kernel
theorem d_D_note_0 : decode b_D_note 0 = .ok (.iload_n 1, 1) := by decide +kernel
theorem d_D_note_1 : decode b_D_note 1 = .ok (.ifCond .lt 9, 3) := by decide +kernel
theorem d_D_note_4 : decode b_D_note 4 = .ok (.iload_n 1, 1) := by decide +kernel
theorem d_D_note_5 : decode b_D_note 5 = .ok (.bipush 24, 2) := by decide +kernel
theorem d_D_note_7 : decode b_D_note 7 = .ok (.if_icmp .lt 13, 3) := by decide +kernel
theorem d_D_note_10 : decode b_D_note 10 = .ok (.new 55, 3) := by decide +kernel
theorem d_D_note_13 : decode b_D_note 13 = .ok (.dup, 1) := by decide +kernel
theorem d_D_note_14 : decode b_D_note 14 = .ok (.ldc 88, 2) := by decide +kernel
theorem d_D_note_16 : decode b_D_note 16 = .ok (.invokespecial 59, 3) := by decide +kernel
theorem d_D_note_19 : decode b_D_note 19 = .ok (.athrow, 1) := by decide +kernel
theorem d_D_note_20 : decode b_D_note 20 = .ok (.aload_n 0, 1) := by decide +kernel
theorem d_D_note_21 : decode b_D_note 21 = .ok (.getfield 23, 3) := by decide +kernel
theorem d_D_note_24 : decode b_D_note 24 = .ok (.getfield 62, 3) := by decide +kernel
theorem d_D_note_27 : decode b_D_note 27 = .ok (.ifCond .eq 13, 3) := by decide +kernel
theorem d_D_note_30 : decode b_D_note 30 = .ok (.new 70, 3) := by decide +kernel
theorem d_D_note_33 : decode b_D_note 33 = .ok (.dup, 1) := by decide +kernel
theorem d_D_note_34 : decode b_D_note 34 = .ok (.ldc 86, 2) := by decide +kernel
theorem d_D_note_36 : decode b_D_note 36 = .ok (.invokespecial 74, 3) := by decide +kernel
theorem d_D_note_39 : decode b_D_note 39 = .ok (.athrow, 1) := by decide +kernel
theorem d_D_note_40 : decode b_D_note 40 = .ok (.aload_n 0, 1) := by decide +kernel
theorem d_D_note_41 : decode b_D_note 41 = .ok (.getfield 48, 3) := by decide +kernel
theorem d_D_note_44 : decode b_D_note 44 = .ok (.getfield 90, 3) := by decide +kernel
theorem d_D_note_47 : decode b_D_note 47 = .ok (.iload_n 1, 1) := by decide +kernel
theorem d_D_note_48 : decode b_D_note 48 = .ok (.iaload, 1) := by decide +kernel
theorem d_D_note_49 : decode b_D_note 49 = .ok (.ireturn, 1) := by decide +kernel
theorem d_D_put_0 : decode b_D_put 0 = .ok (.iload_n 3, 1) := by decide +kernel
theorem d_D_put_1 : decode b_D_put 1 = .ok (.iconst 1, 1) := by decide +kernel
theorem d_D_put_2 : decode b_D_put 2 = .ok (.if_icmp .lt 9, 3) := by decide +kernel
theorem d_D_put_5 : decode b_D_put 5 = .ok (.iload_n 3, 1) := by decide +kernel
theorem d_D_put_6 : decode b_D_put 6 = .ok (.bipush 8, 2) := by decide +kernel
theorem d_D_put_8 : decode b_D_put 8 = .ok (.if_icmp .le 13, 3) := by decide +kernel
theorem d_D_put_11 : decode b_D_put 11 = .ok (.new 55, 3) := by decide +kernel
theorem d_D_put_14 : decode b_D_put 14 = .ok (.dup, 1) := by decide +kernel
theorem d_D_put_15 : decode b_D_put 15 = .ok (.ldc 57, 2) := by decide +kernel
theorem d_D_put_17 : decode b_D_put 17 = .ok (.invokespecial 59, 3) := by decide +kernel
theorem d_D_put_20 : decode b_D_put 20 = .ok (.athrow, 1) := by decide +kernel
theorem d_D_put_21 : decode b_D_put 21 = .ok (.aload_n 0, 1) := by decide +kernel
theorem d_D_put_22 : decode b_D_put 22 = .ok (.getfield 23, 3) := by decide +kernel
theorem d_D_put_25 : decode b_D_put 25 = .ok (.getfield 62, 3) := by decide +kernel
theorem d_D_put_28 : decode b_D_put 28 = .ok (.ifCond .ne 14, 3) := by decide +kernel
theorem d_D_put_31 : decode b_D_put 31 = .ok (.aload_n 0, 1) := by decide +kernel
theorem d_D_put_32 : decode b_D_put 32 = .ok (.getfield 30, 3) := by decide +kernel
theorem d_D_put_35 : decode b_D_put 35 = .ok (.iload_n 3, 1) := by decide +kernel
theorem d_D_put_36 : decode b_D_put 36 = .ok (.invokevirtual 66, 3) := by decide +kernel
theorem d_D_put_39 : decode b_D_put 39 = .ok (.ifCond .ne 13, 3) := by decide +kernel
theorem d_D_put_42 : decode b_D_put 42 = .ok (.new 70, 3) := by decide +kernel
theorem d_D_put_45 : decode b_D_put 45 = .ok (.dup, 1) := by decide +kernel
theorem d_D_put_46 : decode b_D_put 46 = .ok (.ldc 72, 2) := by decide +kernel
theorem d_D_put_48 : decode b_D_put 48 = .ok (.invokespecial 74, 3) := by decide +kernel
theorem d_D_put_51 : decode b_D_put 51 = .ok (.athrow, 1) := by decide +kernel
theorem d_D_put_52 : decode b_D_put 52 = .ok (.iload_n 3, 1) := by decide +kernel
theorem d_D_put_53 : decode b_D_put 53 = .ok (.iconst 1, 1) := by decide +kernel
theorem d_D_put_54 : decode b_D_put 54 = .ok (.isub, 1) := by decide +kernel
theorem d_D_put_55 : decode b_D_put 55 = .ok (.istore 4, 2) := by decide +kernel
theorem d_D_put_57 : decode b_D_put 57 = .ok (.iload 4, 2) := by decide +kernel
theorem d_D_put_59 : decode b_D_put 59 = .ok (.ifCond .lt 25, 3) := by decide +kernel
theorem d_D_put_62 : decode b_D_put 62 = .ok (.aload_n 0, 1) := by decide +kernel
theorem d_D_put_63 : decode b_D_put 63 = .ok (.getfield 30, 3) := by decide +kernel
theorem d_D_put_66 : decode b_D_put 66 = .ok (.lload_n 1, 1) := by decide +kernel
theorem d_D_put_67 : decode b_D_put 67 = .ok (.bipush 8, 2) := by decide +kernel
theorem d_D_put_69 : decode b_D_put 69 = .ok (.iload 4, 2) := by decide +kernel
theorem d_D_put_71 : decode b_D_put 71 = .ok (.imul, 1) := by decide +kernel
theorem d_D_put_72 : decode b_D_put 72 = .ok (.lushr, 1) := by decide +kernel
theorem d_D_put_73 : decode b_D_put 73 = .ok (.l2i, 1) := by decide +kernel
theorem d_D_put_74 : decode b_D_put 74 = .ok (.i2b, 1) := by decide +kernel
theorem d_D_put_75 : decode b_D_put 75 = .ok (.invokevirtual 75, 3) := by decide +kernel
theorem d_D_put_78 : decode b_D_put 78 = .ok (.iinc 4 (-1), 3) := by decide +kernel
theorem d_D_put_81 : decode b_D_put 81 = .ok (.goto (-24), 3) := by decide +kernel
theorem d_D_put_84 : decode b_D_put 84 = .ok (.aload_n 0, 1) := by decide +kernel
theorem d_D_put_85 : decode b_D_put 85 = .ok (.getfield 30, 3) := by decide +kernel
theorem d_D_put_88 : decode b_D_put 88 = .ok (.getfield 79, 3) := by decide +kernel
theorem d_D_put_91 : decode b_D_put 91 = .ok (.ireturn, 1) := by decide +kernel
theorem d_D_fill_0 : decode b_D_fill 0 = .ok (.iload_n 2, 1) := by decide +kernel
theorem d_D_fill_1 : decode b_D_fill 1 = .ok (.iconst 1, 1) := by decide +kernel
theorem d_D_fill_2 : decode b_D_fill 2 = .ok (.if_icmp .lt 9, 3) := by decide +kernel
theorem d_D_fill_5 : decode b_D_fill 5 = .ok (.iload_n 2, 1) := by decide +kernel
theorem d_D_fill_6 : decode b_D_fill 6 = .ok (.ldc 83, 2) := by decide +kernel
theorem d_D_fill_8 : decode b_D_fill 8 = .ok (.if_icmp .le 13, 3) := by decide +kernel
theorem d_D_fill_11 : decode b_D_fill 11 = .ok (.new 55, 3) := by decide +kernel
theorem d_D_fill_14 : decode b_D_fill 14 = .ok (.dup, 1) := by decide +kernel
theorem d_D_fill_15 : decode b_D_fill 15 = .ok (.ldc 84, 2) := by decide +kernel
theorem d_D_fill_17 : decode b_D_fill 17 = .ok (.invokespecial 59, 3) := by decide +kernel
theorem d_D_fill_20 : decode b_D_fill 20 = .ok (.athrow, 1) := by decide +kernel
theorem d_D_fill_21 : decode b_D_fill 21 = .ok (.aload_n 0, 1) := by decide +kernel
theorem d_D_fill_22 : decode b_D_fill 22 = .ok (.getfield 23, 3) := by decide +kernel
theorem d_D_fill_25 : decode b_D_fill 25 = .ok (.getfield 62, 3) := by decide +kernel
theorem d_D_fill_28 : decode b_D_fill 28 = .ok (.ifCond .ne 14, 3) := by decide +kernel
theorem d_D_fill_31 : decode b_D_fill 31 = .ok (.aload_n 0, 1) := by decide +kernel
theorem d_D_fill_32 : decode b_D_fill 32 = .ok (.getfield 30, 3) := by decide +kernel
theorem d_D_fill_35 : decode b_D_fill 35 = .ok (.iload_n 2, 1) := by decide +kernel
theorem d_D_fill_36 : decode b_D_fill 36 = .ok (.invokevirtual 66, 3) := by decide +kernel
theorem d_D_fill_39 : decode b_D_fill 39 = .ok (.ifCond .ne 13, 3) := by decide +kernel
theorem d_D_fill_42 : decode b_D_fill 42 = .ok (.new 70, 3) := by decide +kernel
theorem d_D_fill_45 : decode b_D_fill 45 = .ok (.dup, 1) := by decide +kernel
theorem d_D_fill_46 : decode b_D_fill 46 = .ok (.ldc 72, 2) := by decide +kernel
theorem d_D_fill_48 : decode b_D_fill 48 = .ok (.invokespecial 74, 3) := by decide +kernel
theorem d_D_fill_51 : decode b_D_fill 51 = .ok (.athrow, 1) := by decide +kernel
theorem d_D_fill_52 : decode b_D_fill 52 = .ok (.iconst 0, 1) := by decide +kernel
theorem d_D_fill_53 : decode b_D_fill 53 = .ok (.istore_n 3, 1) := by decide +kernel
theorem d_D_fill_54 : decode b_D_fill 54 = .ok (.iload_n 3, 1) := by decide +kernel
theorem d_D_fill_55 : decode b_D_fill 55 = .ok (.iload_n 2, 1) := by decide +kernel
theorem d_D_fill_56 : decode b_D_fill 56 = .ok (.if_icmp .ge 20, 3) := by decide +kernel
theorem d_D_fill_59 : decode b_D_fill 59 = .ok (.aload_n 0, 1) := by decide +kernel
theorem d_D_fill_60 : decode b_D_fill 60 = .ok (.getfield 30, 3) := by decide +kernel
theorem d_D_fill_63 : decode b_D_fill 63 = .ok (.iload_n 1, 1) := by decide +kernel
theorem d_D_fill_64 : decode b_D_fill 64 = .ok (.iload_n 3, 1) := by decide +kernel
theorem d_D_fill_65 : decode b_D_fill 65 = .ok (.iadd, 1) := by decide +kernel
theorem d_D_fill_66 : decode b_D_fill 66 = .ok (.i2b, 1) := by decide +kernel
theorem d_D_fill_67 : decode b_D_fill 67 = .ok (.invokevirtual 75, 3) := by decide +kernel
theorem d_D_fill_70 : decode b_D_fill 70 = .ok (.iinc 3 1, 3) := by decide +kernel
theorem d_D_fill_73 : decode b_D_fill 73 = .ok (.goto (-19), 3) := by decide +kernel
theorem d_D_fill_76 : decode b_D_fill 76 = .ok (.aload_n 0, 1) := by decide +kernel
theorem d_D_fill_77 : decode b_D_fill 77 = .ok (.getfield 30, 3) := by decide +kernel
theorem d_D_fill_80 : decode b_D_fill 80 = .ok (.getfield 79, 3) := by decide +kernel
theorem d_D_fill_83 : decode b_D_fill 83 = .ok (.ireturn, 1) := by decide +kernel
theorem d_D_isDown_0 : decode b_D_isDown 0 = .ok (.aload_n 0, 1) := by decide +kernel
theorem d_D_isDown_1 : decode b_D_isDown 1 = .ok (.getfield 23, 3) := by decide +kernel
theorem d_D_isDown_4 : decode b_D_isDown 4 = .ok (.getfield 62, 3) := by decide +kernel
theorem d_D_isDown_7 : decode b_D_isDown 7 = .ok (.ireturn, 1) := by decide +kernel
theorem d_D_writes_0 : decode b_D_writes 0 = .ok (.aload_n 0, 1) := by decide +kernel
theorem d_D_writes_1 : decode b_D_writes 1 = .ok (.getfield 23, 3) := by decide +kernel
theorem d_D_writes_4 : decode b_D_writes 4 = .ok (.getfield 163, 3) := by decide +kernel
theorem d_D_writes_7 : decode b_D_writes 7 = .ok (.ireturn, 1) := by decide +kernel
theorem d_D_crash_0 : decode b_D_crash 0 = .ok (.iload_n 1, 1) := by decide +kernel
theorem d_D_crash_1 : decode b_D_crash 1 = .ok (.iconst (-1), 1) := by decide +kernel
theorem d_D_crash_2 : decode b_D_crash 2 = .ok (.if_icmp .lt 10, 3) := by decide +kernel
theorem d_D_crash_5 : decode b_D_crash 5 = .ok (.iload_n 1, 1) := by decide +kernel
theorem d_D_crash_6 : decode b_D_crash 6 = .ok (.sipush 1000, 3) := by decide +kernel
theorem d_D_crash_9 : decode b_D_crash 9 = .ok (.if_icmp .le 13, 3) := by decide +kernel
theorem d_D_crash_12 : decode b_D_crash 12 = .ok (.new 55, 3) := by decide +kernel
theorem d_D_crash_15 : decode b_D_crash 15 = .ok (.dup, 1) := by decide +kernel
theorem d_D_crash_16 : decode b_D_crash 16 = .ok (.ldc 136, 2) := by decide +kernel
theorem d_D_crash_18 : decode b_D_crash 18 = .ok (.invokespecial 59, 3) := by decide +kernel
theorem d_D_crash_21 : decode b_D_crash 21 = .ok (.athrow, 1) := by decide +kernel
theorem d_D_crash_22 : decode b_D_crash 22 = .ok (.aload_n 0, 1) := by decide +kernel
theorem d_D_crash_23 : decode b_D_crash 23 = .ok (.getfield 23, 3) := by decide +kernel
theorem d_D_crash_26 : decode b_D_crash 26 = .ok (.getfield 62, 3) := by decide +kernel
theorem d_D_crash_29 : decode b_D_crash 29 = .ok (.ifCond .eq 13, 3) := by decide +kernel
theorem d_D_crash_32 : decode b_D_crash 32 = .ok (.new 70, 3) := by decide +kernel
theorem d_D_crash_35 : decode b_D_crash 35 = .ok (.dup, 1) := by decide +kernel
theorem d_D_crash_36 : decode b_D_crash 36 = .ok (.ldc 86, 2) := by decide +kernel
theorem d_D_crash_38 : decode b_D_crash 38 = .ok (.invokespecial 74, 3) := by decide +kernel
theorem d_D_crash_41 : decode b_D_crash 41 = .ok (.athrow, 1) := by decide +kernel
theorem d_D_crash_42 : decode b_D_crash 42 = .ok (.aload_n 0, 1) := by decide +kernel
theorem d_D_crash_43 : decode b_D_crash 43 = .ok (.getfield 23, 3) := by decide +kernel
theorem d_D_crash_46 : decode b_D_crash 46 = .ok (.iload_n 1, 1) := by decide +kernel
theorem d_D_crash_47 : decode b_D_crash 47 = .ok (.invokevirtual 138, 3) := by decide +kernel
theorem d_D_crash_50 : decode b_D_crash 50 = .ok (.aload_n 0, 1) := by decide +kernel
theorem d_D_crash_51 : decode b_D_crash 51 = .ok (.getfield 23, 3) := by decide +kernel
theorem d_D_crash_54 : decode b_D_crash 54 = .ok (.getfield 62, 3) := by decide +kernel
theorem d_D_crash_57 : decode b_D_crash 57 = .ok (.ifCond .eq 7, 3) := by decide +kernel
theorem d_D_crash_60 : decode b_D_crash 60 = .ok (.aload_n 0, 1) := by decide +kernel
theorem d_D_crash_61 : decode b_D_crash 61 = .ok (.invokevirtual 141, 3) := by decide +kernel
theorem d_D_crash_64 : decode b_D_crash 64 = .ok (.return_, 1) := by decide +kernel
theorem d_D_byteAt_0 : decode b_D_byteAt 0 = .ok (.aload_n 0, 1) := by decide +kernel
theorem d_D_byteAt_1 : decode b_D_byteAt 1 = .ok (.getfield 48, 3) := by decide +kernel
theorem d_D_byteAt_4 : decode b_D_byteAt 4 = .ok (.iload_n 1, 1) := by decide +kernel
theorem d_D_byteAt_5 : decode b_D_byteAt 5 = .ok (.invokevirtual 115, 3) := by decide +kernel
theorem d_D_byteAt_8 : decode b_D_byteAt 8 = .ok (.ifCond .ne 13, 3) := by decide +kernel
theorem d_D_byteAt_11 : decode b_D_byteAt 11 = .ok (.new 55, 3) := by decide +kernel
theorem d_D_byteAt_14 : decode b_D_byteAt 14 = .ok (.dup, 1) := by decide +kernel
theorem d_D_byteAt_15 : decode b_D_byteAt 15 = .ok (.ldc 118, 2) := by decide +kernel
theorem d_D_byteAt_17 : decode b_D_byteAt 17 = .ok (.invokespecial 59, 3) := by decide +kernel
theorem d_D_byteAt_20 : decode b_D_byteAt 20 = .ok (.athrow, 1) := by decide +kernel
theorem d_D_byteAt_21 : decode b_D_byteAt 21 = .ok (.iload_n 2, 1) := by decide +kernel
theorem d_D_byteAt_22 : decode b_D_byteAt 22 = .ok (.ifCond .lt 16, 3) := by decide +kernel
theorem d_D_byteAt_25 : decode b_D_byteAt 25 = .ok (.iload_n 2, 1) := by decide +kernel
theorem d_D_byteAt_26 : decode b_D_byteAt 26 = .ok (.aload_n 0, 1) := by decide +kernel
theorem d_D_byteAt_27 : decode b_D_byteAt 27 = .ok (.getfield 48, 3) := by decide +kernel
theorem d_D_byteAt_30 : decode b_D_byteAt 30 = .ok (.getfield 126, 3) := by decide +kernel
theorem d_D_byteAt_33 : decode b_D_byteAt 33 = .ok (.iload_n 1, 1) := by decide +kernel
theorem d_D_byteAt_34 : decode b_D_byteAt 34 = .ok (.iaload, 1) := by decide +kernel
theorem d_D_byteAt_35 : decode b_D_byteAt 35 = .ok (.if_icmp .lt 13, 3) := by decide +kernel
theorem d_D_byteAt_38 : decode b_D_byteAt 38 = .ok (.new 55, 3) := by decide +kernel
theorem d_D_byteAt_41 : decode b_D_byteAt 41 = .ok (.dup, 1) := by decide +kernel
theorem d_D_byteAt_42 : decode b_D_byteAt 42 = .ok (.ldc 131, 2) := by decide +kernel
theorem d_D_byteAt_44 : decode b_D_byteAt 44 = .ok (.invokespecial 59, 3) := by decide +kernel
theorem d_D_byteAt_47 : decode b_D_byteAt 47 = .ok (.athrow, 1) := by decide +kernel
theorem d_D_byteAt_48 : decode b_D_byteAt 48 = .ok (.aload_n 0, 1) := by decide +kernel
theorem d_D_byteAt_49 : decode b_D_byteAt 49 = .ok (.getfield 23, 3) := by decide +kernel
theorem d_D_byteAt_52 : decode b_D_byteAt 52 = .ok (.aload_n 0, 1) := by decide +kernel
theorem d_D_byteAt_53 : decode b_D_byteAt 53 = .ok (.getfield 48, 3) := by decide +kernel
