theorem d_D_byteAt_56 : decode b_D_byteAt 56 = .ok (.getfield 123, 3) := by decide +kernel
theorem d_D_byteAt_59 : decode b_D_byteAt 59 = .ok (.iload_n 1, 1) := by decide +kernel
theorem d_D_byteAt_60 : decode b_D_byteAt 60 = .ok (.iaload, 1) := by decide +kernel
theorem d_D_byteAt_61 : decode b_D_byteAt 61 = .ok (.sipush 4096, 3) := by decide +kernel
theorem d_D_byteAt_64 : decode b_D_byteAt 64 = .ok (.imul, 1) := by decide +kernel
theorem d_D_byteAt_65 : decode b_D_byteAt 65 = .ok (.iload_n 2, 1) := by decide +kernel
theorem d_D_byteAt_66 : decode b_D_byteAt 66 = .ok (.iadd, 1) := by decide +kernel
theorem d_D_byteAt_67 : decode b_D_byteAt 67 = .ok (.invokevirtual 133, 3) := by decide +kernel
theorem d_D_byteAt_70 : decode b_D_byteAt 70 = .ok (.ireturn, 1) := by decide +kernel
theorem d_D_extent_0 : decode b_D_extent 0 = .ok (.aload_n 0, 1) := by decide +kernel
theorem d_D_extent_1 : decode b_D_extent 1 = .ok (.getfield 48, 3) := by decide +kernel
theorem d_D_extent_4 : decode b_D_extent 4 = .ok (.iload_n 1, 1) := by decide +kernel
theorem d_D_extent_5 : decode b_D_extent 5 = .ok (.invokevirtual 115, 3) := by decide +kernel
theorem d_D_extent_8 : decode b_D_extent 8 = .ok (.ifCond .ne 13, 3) := by decide +kernel
theorem d_D_extent_11 : decode b_D_extent 11 = .ok (.new 55, 3) := by decide +kernel
theorem d_D_extent_14 : decode b_D_extent 14 = .ok (.dup, 1) := by decide +kernel
theorem d_D_extent_15 : decode b_D_extent 15 = .ok (.ldc 118, 2) := by decide +kernel
theorem d_D_extent_17 : decode b_D_extent 17 = .ok (.invokespecial 59, 3) := by decide +kernel
theorem d_D_extent_20 : decode b_D_extent 20 = .ok (.athrow, 1) := by decide +kernel
theorem d_D_extent_21 : decode b_D_extent 21 = .ok (.iload_n 2, 1) := by decide +kernel
theorem d_D_extent_22 : decode b_D_extent 22 = .ok (.tableswitch 73 0 3 #[30, 40, 50, 63], 30) := by decide +kernel
theorem d_D_extent_52 : decode b_D_extent 52 = .ok (.aload_n 0, 1) := by decide +kernel
theorem d_D_extent_53 : decode b_D_extent 53 = .ok (.getfield 48, 3) := by decide +kernel
theorem d_D_extent_56 : decode b_D_extent 56 = .ok (.getfield 120, 3) := by decide +kernel
theorem d_D_extent_59 : decode b_D_extent 59 = .ok (.iload_n 1, 1) := by decide +kernel
theorem d_D_extent_60 : decode b_D_extent 60 = .ok (.iaload, 1) := by decide +kernel
theorem d_D_extent_61 : decode b_D_extent 61 = .ok (.ireturn, 1) := by decide +kernel
theorem d_D_extent_62 : decode b_D_extent 62 = .ok (.aload_n 0, 1) := by decide +kernel
theorem d_D_extent_63 : decode b_D_extent 63 = .ok (.getfield 48, 3) := by decide +kernel
theorem d_D_extent_66 : decode b_D_extent 66 = .ok (.getfield 123, 3) := by decide +kernel
theorem d_D_extent_69 : decode b_D_extent 69 = .ok (.iload_n 1, 1) := by decide +kernel
theorem d_D_extent_70 : decode b_D_extent 70 = .ok (.iaload, 1) := by decide +kernel
theorem d_D_extent_71 : decode b_D_extent 71 = .ok (.ireturn, 1) := by decide +kernel
theorem d_D_extent_72 : decode b_D_extent 72 = .ok (.aload_n 0, 1) := by decide +kernel
theorem d_D_extent_73 : decode b_D_extent 73 = .ok (.getfield 48, 3) := by decide +kernel
theorem d_D_extent_76 : decode b_D_extent 76 = .ok (.getfield 126, 3) := by decide +kernel
theorem d_D_extent_79 : decode b_D_extent 79 = .ok (.iload_n 1, 1) := by decide +kernel
theorem d_D_extent_80 : decode b_D_extent 80 = .ok (.iaload, 1) := by decide +kernel
theorem d_D_extent_81 : decode b_D_extent 81 = .ok (.invokestatic 101, 3) := by decide +kernel
theorem d_D_extent_84 : decode b_D_extent 84 = .ok (.ireturn, 1) := by decide +kernel
theorem d_D_extent_85 : decode b_D_extent 85 = .ok (.aload_n 0, 1) := by decide +kernel
theorem d_D_extent_86 : decode b_D_extent 86 = .ok (.getfield 48, 3) := by decide +kernel
theorem d_D_extent_89 : decode b_D_extent 89 = .ok (.getfield 126, 3) := by decide +kernel
theorem d_D_extent_92 : decode b_D_extent 92 = .ok (.iload_n 1, 1) := by decide +kernel
theorem d_D_extent_93 : decode b_D_extent 93 = .ok (.iaload, 1) := by decide +kernel
theorem d_D_extent_94 : decode b_D_extent 94 = .ok (.ireturn, 1) := by decide +kernel
theorem d_D_extent_95 : decode b_D_extent 95 = .ok (.new 55, 3) := by decide +kernel
theorem d_D_extent_98 : decode b_D_extent 98 = .ok (.dup, 1) := by decide +kernel
theorem d_D_extent_99 : decode b_D_extent 99 = .ok (.ldc 129, 2) := by decide +kernel
theorem d_D_extent_101 : decode b_D_extent 101 = .ok (.invokespecial 59, 3) := by decide +kernel
theorem d_D_extent_104 : decode b_D_extent 104 = .ok (.athrow, 1) := by decide +kernel
theorem d_D_count_0 : decode b_D_count 0 = .ok (.iload_n 1, 1) := by decide +kernel
theorem d_D_count_1 : decode b_D_count 1 = .ok (.ifCond .lt 8, 3) := by decide +kernel
theorem d_D_count_4 : decode b_D_count 4 = .ok (.iload_n 1, 1) := by decide +kernel
theorem d_D_count_5 : decode b_D_count 5 = .ok (.iconst 3, 1) := by decide +kernel
theorem d_D_count_6 : decode b_D_count 6 = .ok (.if_icmp .le 13, 3) := by decide +kernel
theorem d_D_count_9 : decode b_D_count 9 = .ok (.new 55, 3) := by decide +kernel
theorem d_D_count_12 : decode b_D_count 12 = .ok (.dup, 1) := by decide +kernel
theorem d_D_count_13 : decode b_D_count 13 = .ok (.ldc 129, 2) := by decide +kernel
theorem d_D_count_15 : decode b_D_count 15 = .ok (.invokespecial 59, 3) := by decide +kernel
theorem d_D_count_18 : decode b_D_count 18 = .ok (.athrow, 1) := by decide +kernel
theorem d_D_count_19 : decode b_D_count 19 = .ok (.aload_n 0, 1) := by decide +kernel
theorem d_D_count_20 : decode b_D_count 20 = .ok (.getfield 23, 3) := by decide +kernel
theorem d_D_count_23 : decode b_D_count 23 = .ok (.getfield 62, 3) := by decide +kernel
theorem d_D_count_26 : decode b_D_count 26 = .ok (.ifCond .eq 13, 3) := by decide +kernel
theorem d_D_count_29 : decode b_D_count 29 = .ok (.new 70, 3) := by decide +kernel
theorem d_D_count_32 : decode b_D_count 32 = .ok (.dup, 1) := by decide +kernel
theorem d_D_count_33 : decode b_D_count 33 = .ok (.ldc 86, 2) := by decide +kernel
theorem d_D_count_35 : decode b_D_count 35 = .ok (.invokespecial 74, 3) := by decide +kernel
theorem d_D_count_38 : decode b_D_count 38 = .ok (.athrow, 1) := by decide +kernel
theorem d_D_count_39 : decode b_D_count 39 = .ok (.iload_n 1, 1) := by decide +kernel
theorem d_D_count_40 : decode b_D_count 40 = .ok (.tableswitch 49 0 2 #[28, 36, 41], 28) := by decide +kernel
theorem d_D_count_68 : decode b_D_count 68 = .ok (.aload_n 0, 1) := by decide +kernel
theorem d_D_count_69 : decode b_D_count 69 = .ok (.getfield 48, 3) := by decide +kernel
theorem d_D_count_72 : decode b_D_count 72 = .ok (.getfield 160, 3) := by decide +kernel
theorem d_D_count_75 : decode b_D_count 75 = .ok (.ireturn, 1) := by decide +kernel
theorem d_D_count_76 : decode b_D_count 76 = .ok (.aload_n 0, 1) := by decide +kernel
theorem d_D_count_77 : decode b_D_count 77 = .ok (.invokevirtual 166, 3) := by decide +kernel
theorem d_D_count_80 : decode b_D_count 80 = .ok (.ireturn, 1) := by decide +kernel
theorem d_D_count_81 : decode b_D_count 81 = .ok (.aload_n 0, 1) := by decide +kernel
theorem d_D_count_82 : decode b_D_count 82 = .ok (.getfield 30, 3) := by decide +kernel
theorem d_D_count_85 : decode b_D_count 85 = .ok (.getfield 79, 3) := by decide +kernel
theorem d_D_count_88 : decode b_D_count 88 = .ok (.ireturn, 1) := by decide +kernel
theorem d_D_count_89 : decode b_D_count 89 = .ok (.aload_n 0, 1) := by decide +kernel
theorem d_D_count_90 : decode b_D_count 90 = .ok (.getfield 48, 3) := by decide +kernel
theorem d_D_count_93 : decode b_D_count 93 = .ok (.getfield 148, 3) := by decide +kernel
theorem d_D_count_96 : decode b_D_count 96 = .ok (.ireturn, 1) := by decide +kernel
theorem d_D_doubled_0 : decode b_D_doubled 0 = .ok (.aload_n 0, 1) := by decide +kernel
theorem d_D_doubled_1 : decode b_D_doubled 1 = .ok (.getfield 23, 3) := by decide +kernel
theorem d_D_doubled_4 : decode b_D_doubled 4 = .ok (.getfield 62, 3) := by decide +kernel
theorem d_D_doubled_7 : decode b_D_doubled 7 = .ok (.ifCond .eq 13, 3) := by decide +kernel
theorem d_D_doubled_10 : decode b_D_doubled 10 = .ok (.new 70, 3) := by decide +kernel
theorem d_D_doubled_13 : decode b_D_doubled 13 = .ok (.dup, 1) := by decide +kernel
theorem d_D_doubled_14 : decode b_D_doubled 14 = .ok (.ldc 86, 2) := by decide +kernel
theorem d_D_doubled_16 : decode b_D_doubled 16 = .ok (.invokespecial 74, 3) := by decide +kernel
theorem d_D_doubled_19 : decode b_D_doubled 19 = .ok (.athrow, 1) := by decide +kernel
theorem d_D_doubled_20 : decode b_D_doubled 20 = .ok (.aload_n 0, 1) := by decide +kernel
theorem d_D_doubled_21 : decode b_D_doubled 21 = .ok (.getfield 48, 3) := by decide +kernel
theorem d_D_doubled_24 : decode b_D_doubled 24 = .ok (.aload_n 0, 1) := by decide +kernel
theorem d_D_doubled_25 : decode b_D_doubled 25 = .ok (.getfield 42, 3) := by decide +kernel
theorem d_D_doubled_28 : decode b_D_doubled 28 = .ok (.invokevirtual 170, 3) := by decide +kernel
theorem d_D_doubled_31 : decode b_D_doubled 31 = .ok (.iconst 0, 1) := by decide +kernel
theorem d_D_doubled_32 : decode b_D_doubled 32 = .ok (.istore_n 1, 1) := by decide +kernel
theorem d_D_doubled_33 : decode b_D_doubled 33 = .ok (.iconst 0, 1) := by decide +kernel
theorem d_D_doubled_34 : decode b_D_doubled 34 = .ok (.istore_n 2, 1) := by decide +kernel
theorem d_D_doubled_35 : decode b_D_doubled 35 = .ok (.iload_n 2, 1) := by decide +kernel
theorem d_D_doubled_36 : decode b_D_doubled 36 = .ok (.aload_n 0, 1) := by decide +kernel
theorem d_D_doubled_37 : decode b_D_doubled 37 = .ok (.getfield 42, 3) := by decide +kernel
theorem d_D_doubled_40 : decode b_D_doubled 40 = .ok (.arraylength, 1) := by decide +kernel
theorem d_D_doubled_41 : decode b_D_doubled 41 = .ok (.if_icmp .ge 24, 3) := by decide +kernel
theorem d_D_doubled_44 : decode b_D_doubled 44 = .ok (.iload_n 1, 1) := by decide +kernel
theorem d_D_doubled_45 : decode b_D_doubled 45 = .ok (.iconst 0, 1) := by decide +kernel
theorem d_D_doubled_46 : decode b_D_doubled 46 = .ok (.aload_n 0, 1) := by decide +kernel
theorem d_D_doubled_47 : decode b_D_doubled 47 = .ok (.getfield 42, 3) := by decide +kernel
theorem d_D_doubled_50 : decode b_D_doubled 50 = .ok (.iload_n 2, 1) := by decide +kernel
theorem d_D_doubled_51 : decode b_D_doubled 51 = .ok (.iaload, 1) := by decide +kernel
theorem d_D_doubled_52 : decode b_D_doubled 52 = .ok (.iconst 1, 1) := by decide +kernel
theorem d_D_doubled_53 : decode b_D_doubled 53 = .ok (.isub, 1) := by decide +kernel
theorem d_D_doubled_54 : decode b_D_doubled 54 = .ok (.invokestatic 15, 3) := by decide +kernel
theorem d_D_doubled_57 : decode b_D_doubled 57 = .ok (.iadd, 1) := by decide +kernel
theorem d_D_doubled_58 : decode b_D_doubled 58 = .ok (.istore_n 1, 1) := by decide +kernel
theorem d_D_doubled_59 : decode b_D_doubled 59 = .ok (.iinc 2 1, 3) := by decide +kernel
theorem d_D_doubled_62 : decode b_D_doubled 62 = .ok (.goto (-27), 3) := by decide +kernel
theorem d_D_doubled_65 : decode b_D_doubled 65 = .ok (.iload_n 1, 1) := by decide +kernel
theorem d_D_doubled_66 : decode b_D_doubled 66 = .ok (.ireturn, 1) := by decide +kernel
theorem d_D_recover_0 : decode b_D_recover 0 = .ok (.aload_n 0, 1) := by decide +kernel
theorem d_D_recover_1 : decode b_D_recover 1 = .ok (.getfield 23, 3) := by decide +kernel
theorem d_D_recover_4 : decode b_D_recover 4 = .ok (.iconst (-1), 1) := by decide +kernel
theorem d_D_recover_5 : decode b_D_recover 5 = .ok (.invokevirtual 138, 3) := by decide +kernel
theorem d_D_recover_8 : decode b_D_recover 8 = .ok (.aload_n 0, 1) := by decide +kernel
theorem d_D_recover_9 : decode b_D_recover 9 = .ok (.getfield 30, 3) := by decide +kernel
theorem d_D_recover_12 : decode b_D_recover 12 = .ok (.iconst 0, 1) := by decide +kernel
theorem d_D_recover_13 : decode b_D_recover 13 = .ok (.putfield 79, 3) := by decide +kernel
theorem d_D_recover_16 : decode b_D_recover 16 = .ok (.aload_n 0, 1) := by decide +kernel
theorem d_D_recover_17 : decode b_D_recover 17 = .ok (.getfield 48, 3) := by decide +kernel
theorem d_D_recover_20 : decode b_D_recover 20 = .ok (.aload_n 0, 1) := by decide +kernel
theorem d_D_recover_21 : decode b_D_recover 21 = .ok (.getfield 23, 3) := by decide +kernel
theorem d_D_recover_24 : decode b_D_recover 24 = .ok (.iconst 0, 1) := by decide +kernel
theorem d_D_recover_25 : decode b_D_recover 25 = .ok (.invokevirtual 144, 3) := by decide +kernel
theorem d_D_recover_28 : decode b_D_recover 28 = .ok (.aload_n 0, 1) := by decide +kernel
theorem d_D_recover_29 : decode b_D_recover 29 = .ok (.getfield 52, 3) := by decide +kernel
theorem d_D_recover_32 : decode b_D_recover 32 = .ok (.aload_n 0, 1) := by decide +kernel
theorem d_D_recover_33 : decode b_D_recover 33 = .ok (.getfield 23, 3) := by decide +kernel
theorem d_D_recover_36 : decode b_D_recover 36 = .ok (.iconst 1, 1) := by decide +kernel
theorem d_D_recover_37 : decode b_D_recover 37 = .ok (.invokevirtual 144, 3) := by decide +kernel
theorem d_D_recover_40 : decode b_D_recover 40 = .ok (.aload_n 0, 1) := by decide +kernel
theorem d_D_recover_41 : decode b_D_recover 41 = .ok (.getfield 52, 3) := by decide +kernel
theorem d_D_recover_44 : decode b_D_recover 44 = .ok (.getfield 148, 3) := by decide +kernel
theorem d_D_recover_47 : decode b_D_recover 47 = .ok (.aload_n 0, 1) := by decide +kernel
theorem d_D_recover_48 : decode b_D_recover 48 = .ok (.getfield 48, 3) := by decide +kernel
theorem d_D_recover_51 : decode b_D_recover 51 = .ok (.getfield 148, 3) := by decide +kernel
theorem d_D_recover_54 : decode b_D_recover 54 = .ok (.if_icmp .le 7, 3) := by decide +kernel
theorem d_D_recover_57 : decode b_D_recover 57 = .ok (.aload_n 0, 1) := by decide +kernel
theorem d_D_recover_58 : decode b_D_recover 58 = .ok (.invokevirtual 151, 3) := by decide +kernel
theorem d_D_recover_61 : decode b_D_recover 61 = .ok (.aload_n 0, 1) := by decide +kernel
theorem d_D_recover_62 : decode b_D_recover 62 = .ok (.getfield 48, 3) := by decide +kernel
theorem d_D_recover_65 : decode b_D_recover 65 = .ok (.getfield 90, 3) := by decide +kernel
theorem d_D_recover_68 : decode b_D_recover 68 = .ok (.iconst 0, 1) := by decide +kernel
theorem d_D_recover_69 : decode b_D_recover 69 = .ok (.aload_n 0, 1) := by decide +kernel
theorem d_D_recover_70 : decode b_D_recover 70 = .ok (.getfield 34, 3) := by decide +kernel
theorem d_D_recover_73 : decode b_D_recover 73 = .ok (.iconst 0, 1) := by decide +kernel
theorem d_D_recover_74 : decode b_D_recover 74 = .ok (.bipush 24, 2) := by decide +kernel
theorem d_D_recover_76 : decode b_D_recover 76 = .ok (.invokestatic 154, 3) := by decide +kernel
theorem d_D_recover_79 : decode b_D_recover 79 = .ok (.aload_n 0, 1) := by decide +kernel
theorem d_D_recover_80 : decode b_D_recover 80 = .ok (.getfield 48, 3) := by decide +kernel
theorem d_D_recover_83 : decode b_D_recover 83 = .ok (.getfield 160, 3) := by decide +kernel
theorem d_D_recover_86 : decode b_D_recover 86 = .ok (.ireturn, 1) := by decide +kernel
theorem d_D_change_0 : decode b_D_change 0 = .ok (.aload_n 0, 1) := by decide +kernel
theorem d_D_change_1 : decode b_D_change 1 = .ok (.getfield 23, 3) := by decide +kernel
theorem d_D_change_4 : decode b_D_change 4 = .ok (.getfield 62, 3) := by decide +kernel
theorem d_D_change_7 : decode b_D_change 7 = .ok (.ifCond .eq 13, 3) := by decide +kernel
theorem d_D_change_10 : decode b_D_change 10 = .ok (.new 70, 3) := by decide +kernel
theorem d_D_change_13 : decode b_D_change 13 = .ok (.dup, 1) := by decide +kernel
theorem d_D_change_14 : decode b_D_change 14 = .ok (.ldc 86, 2) := by decide +kernel
theorem d_D_change_16 : decode b_D_change 16 = .ok (.invokespecial 74, 3) := by decide +kernel
theorem d_D_change_19 : decode b_D_change 19 = .ok (.athrow, 1) := by decide +kernel
theorem d_D_change_20 : decode b_D_change 20 = .ok (.aload_n 0, 1) := by decide +kernel
theorem d_D_change_21 : decode b_D_change 21 = .ok (.getfield 52, 3) := by decide +kernel
theorem d_D_change_24 : decode b_D_change 24 = .ok (.aload_n 0, 1) := by decide +kernel
theorem d_D_change_25 : decode b_D_change 25 = .ok (.getfield 48, 3) := by decide +kernel
theorem d_D_change_28 : decode b_D_change 28 = .ok (.iload_n 2, 1) := by decide +kernel
theorem d_D_change_29 : decode b_D_change 29 = .ok (.iload_n 3, 1) := by decide +kernel
theorem d_D_change_30 : decode b_D_change 30 = .ok (.invokevirtual 93, 3) := by decide +kernel
theorem d_D_change_33 : decode b_D_change 33 = .ok (.aload_n 0, 1) := by decide +kernel
theorem d_D_change_34 : decode b_D_change 34 = .ok (.getfield 52, 3) := by decide +kernel
theorem d_D_change_37 : decode b_D_change 37 = .ok (.aload_n 0, 1) := by decide +kernel
theorem d_D_change_38 : decode b_D_change 38 = .ok (.getfield 34, 3) := by decide +kernel
theorem d_D_change_41 : decode b_D_change 41 = .ok (.invokevirtual 97, 3) := by decide +kernel
theorem d_D_change_44 : decode b_D_change 44 = .ok (.iconst (-1), 1) := by decide +kernel
theorem d_D_change_45 : decode b_D_change 45 = .ok (.istore 4, 2) := by decide +kernel
theorem d_D_change_47 : decode b_D_change 47 = .ok (.aload_n 0, 1) := by decide +kernel
theorem d_D_change_48 : decode b_D_change 48 = .ok (.getfield 30, 3) := by decide +kernel
theorem d_D_change_51 : decode b_D_change 51 = .ok (.getfield 79, 3) := by decide +kernel
theorem d_D_change_54 : decode b_D_change 54 = .ok (.ifCond .le 48, 3) := by decide +kernel
theorem d_D_change_57 : decode b_D_change 57 = .ok (.aload_n 0, 1) := by decide +kernel
theorem d_D_change_58 : decode b_D_change 58 = .ok (.aload_n 0, 1) := by decide +kernel
theorem d_D_change_59 : decode b_D_change 59 = .ok (.getfield 30, 3) := by decide +kernel
theorem d_D_change_62 : decode b_D_change 62 = .ok (.getfield 79, 3) := by decide +kernel
theorem d_D_change_65 : decode b_D_change 65 = .ok (.invokestatic 101, 3) := by decide +kernel
theorem d_D_change_68 : decode b_D_change 68 = .ok (.invokevirtual 105, 3) := by decide +kernel
theorem d_D_change_71 : decode b_D_change 71 = .ok (.istore 4, 2) := by decide +kernel
theorem d_D_change_73 : decode b_D_change 73 = .ok (.iload 4, 2) := by decide +kernel
theorem d_D_change_75 : decode b_D_change 75 = .ok (.iconst (-1), 1) := by decide +kernel
theorem d_D_change_76 : decode b_D_change 76 = .ok (.if_icmp .eq 23, 3) := by decide +kernel
theorem d_D_change_79 : decode b_D_change 79 = .ok (.aload_n 0, 1) := by decide +kernel
theorem d_D_change_80 : decode b_D_change 80 = .ok (.getfield 52, 3) := by decide +kernel
theorem d_D_change_83 : decode b_D_change 83 = .ok (.iload_n 1, 1) := by decide +kernel
theorem d_D_change_84 : decode b_D_change 84 = .ok (.iload 4, 2) := by decide +kernel
theorem d_D_change_86 : decode b_D_change 86 = .ok (.aload_n 0, 1) := by decide +kernel
theorem d_D_change_87 : decode b_D_change 87 = .ok (.getfield 30, 3) := by decide +kernel
theorem d_D_change_90 : decode b_D_change 90 = .ok (.getfield 79, 3) := by decide +kernel
theorem d_D_change_93 : decode b_D_change 93 = .ok (.invokevirtual 108, 3) := by decide +kernel
theorem d_D_change_96 : decode b_D_change 96 = .ok (.ifCond .ne 6, 3) := by decide +kernel
theorem d_D_change_99 : decode b_D_change 99 = .ok (.bipush (-2), 2) := by decide +kernel
theorem d_D_change_101 : decode b_D_change 101 = .ok (.ireturn, 1) := by decide +kernel
theorem d_D_change_102 : decode b_D_change 102 = .ok (.aload_n 0, 1) := by decide +kernel
theorem d_D_change_103 : decode b_D_change 103 = .ok (.iload 4, 2) := by decide +kernel
theorem d_D_change_105 : decode b_D_change 105 = .ok (.invokevirtual 112, 3) := by decide +kernel
theorem d_D_change_108 : decode b_D_change 108 = .ok (.ireturn, 1) := by decide +kernel
theorem d_Tp_init_0 : decode b_Tp_init 0 = .ok (.aload_n 0, 1) := by decide +kernel
theorem d_Tp_init_1 : decode b_Tp_init 1 = .ok (.invokespecial 3, 3) := by decide +kernel
theorem d_Tp_init_4 : decode b_Tp_init 4 = .ok (.aload_n 0, 1) := by decide +kernel
theorem d_Tp_init_5 : decode b_Tp_init 5 = .ok (.iload_n 1, 1) := by decide +kernel
theorem d_Tp_init_6 : decode b_Tp_init 6 = .ok (.sipush 4096, 3) := by decide +kernel
theorem d_Tp_init_9 : decode b_Tp_init 9 = .ok (.imul, 1) := by decide +kernel
theorem d_Tp_init_10 : decode b_Tp_init 10 = .ok (.newarray .byte, 2) := by decide +kernel
theorem d_Tp_init_12 : decode b_Tp_init 12 = .ok (.putfield 9, 3) := by decide +kernel
theorem d_Tp_init_15 : decode b_Tp_init 15 = .ok (.return_, 1) := by decide +kernel
theorem d_P_init_0 : decode b_P_init 0 = .ok (.aload_n 0, 1) := by decide +kernel
theorem d_P_init_1 : decode b_P_init 1 = .ok (.invokespecial 3, 3) := by decide +kernel
theorem d_P_init_4 : decode b_P_init 4 = .ok (.aload_n 0, 1) := by decide +kernel
theorem d_P_init_5 : decode b_P_init 5 = .ok (.iload_n 1, 1) := by decide +kernel
theorem d_P_init_6 : decode b_P_init 6 = .ok (.sipush 4096, 3) := by decide +kernel
theorem d_P_init_9 : decode b_P_init 9 = .ok (.imul, 1) := by decide +kernel
theorem d_P_init_10 : decode b_P_init 10 = .ok (.newarray .byte, 2) := by decide +kernel
theorem d_P_init_12 : decode b_P_init 12 = .ok (.putfield 9, 3) := by decide +kernel
theorem d_P_init_15 : decode b_P_init 15 = .ok (.aload_n 0, 1) := by decide +kernel
theorem d_P_init_16 : decode b_P_init 16 = .ok (.iconst (-1), 1) := by decide +kernel
theorem d_P_init_17 : decode b_P_init 17 = .ok (.putfield 15, 3) := by decide +kernel
theorem d_P_init_20 : decode b_P_init 20 = .ok (.return_, 1) := by decide +kernel
theorem d_M_init_0 : decode b_M_init 0 = .ok (.aload_n 0, 1) := by decide +kernel
theorem d_M_init_1 : decode b_M_init 1 = .ok (.invokespecial 5, 3) := by decide +kernel
theorem d_M_init_4 : decode b_M_init 4 = .ok (.aload_n 0, 1) := by decide +kernel
theorem d_M_init_5 : decode b_M_init 5 = .ok (.sipush 200, 3) := by decide +kernel
theorem d_M_init_8 : decode b_M_init 8 = .ok (.newarray .int, 2) := by decide +kernel
theorem d_M_init_10 : decode b_M_init 10 = .ok (.putfield 11, 3) := by decide +kernel
theorem d_M_init_13 : decode b_M_init 13 = .ok (.aload_n 0, 1) := by decide +kernel
theorem d_M_init_14 : decode b_M_init 14 = .ok (.sipush 200, 3) := by decide +kernel
theorem d_M_init_17 : decode b_M_init 17 = .ok (.newarray .int, 2) := by decide +kernel
theorem d_M_init_19 : decode b_M_init 19 = .ok (.putfield 15, 3) := by decide +kernel
theorem d_M_init_22 : decode b_M_init 22 = .ok (.aload_n 0, 1) := by decide +kernel
theorem d_M_init_23 : decode b_M_init 23 = .ok (.sipush 200, 3) := by decide +kernel
theorem d_M_init_26 : decode b_M_init 26 = .ok (.newarray .int, 2) := by decide +kernel
theorem d_M_init_28 : decode b_M_init 28 = .ok (.putfield 18, 3) := by decide +kernel
theorem d_M_init_31 : decode b_M_init 31 = .ok (.aload_n 0, 1) := by decide +kernel
theorem d_M_init_32 : decode b_M_init 32 = .ok (.bipush 24, 2) := by decide +kernel
theorem d_M_init_34 : decode b_M_init 34 = .ok (.newarray .int, 2) := by decide +kernel
theorem d_M_init_36 : decode b_M_init 36 = .ok (.putfield 21, 3) := by decide +kernel
theorem d_M_init_39 : decode b_M_init 39 = .ok (.return_, 1) := by decide +kernel
theorem d_D_init_0 : decode b_D_init 0 = .ok (.aload_n 0, 1) := by decide +kernel
theorem d_D_init_1 : decode b_D_init 1 = .ok (.invokespecial 1, 3) := by decide +kernel
theorem d_D_init_4 : decode b_D_init 4 = .ok (.bipush 8, 2) := by decide +kernel
theorem d_D_init_6 : decode b_D_init 6 = .ok (.sipush 128, 3) := by decide +kernel
theorem d_D_init_9 : decode b_D_init 9 = .ok (.iload_n 1, 1) := by decide +kernel
theorem d_D_init_10 : decode b_D_init 10 = .ok (.invokestatic 9, 3) := by decide +kernel
theorem d_D_init_13 : decode b_D_init 13 = .ok (.invokestatic 15, 3) := by decide +kernel
theorem d_D_init_16 : decode b_D_init 16 = .ok (.istore_n 2, 1) := by decide +kernel
theorem d_D_init_17 : decode b_D_init 17 = .ok (.aload_n 0, 1) := by decide +kernel
theorem d_D_init_18 : decode b_D_init 18 = .ok (.new 18, 3) := by decide +kernel
theorem d_D_init_21 : decode b_D_init 21 = .ok (.dup, 1) := by decide +kernel
theorem d_D_init_22 : decode b_D_init 22 = .ok (.iload_n 2, 1) := by decide +kernel
theorem d_D_init_23 : decode b_D_init 23 = .ok (.invokespecial 20, 3) := by decide +kernel
theorem d_D_init_26 : decode b_D_init 26 = .ok (.putfield 23, 3) := by decide +kernel
theorem d_D_init_29 : decode b_D_init 29 = .ok (.aload_n 0, 1) := by decide +kernel
theorem d_D_init_30 : decode b_D_init 30 = .ok (.new 27, 3) := by decide +kernel
theorem d_D_init_33 : decode b_D_init 33 = .ok (.dup, 1) := by decide +kernel
theorem d_D_init_34 : decode b_D_init 34 = .ok (.iload_n 2, 1) := by decide +kernel
theorem d_D_init_35 : decode b_D_init 35 = .ok (.invokespecial 29, 3) := by decide +kernel
theorem d_D_init_38 : decode b_D_init 38 = .ok (.putfield 30, 3) := by decide +kernel
theorem d_D_init_41 : decode b_D_init 41 = .ok (.aload_n 0, 1) := by decide +kernel
theorem d_D_init_42 : decode b_D_init 42 = .ok (.bipush 24, 2) := by decide +kernel
theorem d_D_init_44 : decode b_D_init 44 = .ok (.newarray .int, 2) := by decide +kernel
theorem d_D_init_46 : decode b_D_init 46 = .ok (.putfield 34, 3) := by decide +kernel
theorem d_D_init_49 : decode b_D_init 49 = .ok (.aload_n 0, 1) := by decide +kernel
theorem d_D_init_50 : decode b_D_init 50 = .ok (.sipush 4096, 3) := by decide +kernel
theorem d_D_init_53 : decode b_D_init 53 = .ok (.newarray .byte, 2) := by decide +kernel
theorem d_D_init_55 : decode b_D_init 55 = .ok (.putfield 38, 3) := by decide +kernel
theorem d_D_init_58 : decode b_D_init 58 = .ok (.aload_n 0, 1) := by decide +kernel
theorem d_D_init_59 : decode b_D_init 59 = .ok (.iload_n 2, 1) := by decide +kernel
theorem d_D_init_60 : decode b_D_init 60 = .ok (.newarray .int, 2) := by decide +kernel
theorem d_D_init_62 : decode b_D_init 62 = .ok (.putfield 42, 3) := by decide +kernel
theorem d_D_init_65 : decode b_D_init 65 = .ok (.aload_n 0, 1) := by decide +kernel
theorem d_D_init_66 : decode b_D_init 66 = .ok (.new 45, 3) := by decide +kernel
theorem d_D_init_69 : decode b_D_init 69 = .ok (.dup, 1) := by decide +kernel
theorem d_D_init_70 : decode b_D_init 70 = .ok (.invokespecial 47, 3) := by decide +kernel
theorem d_D_init_73 : decode b_D_init 73 = .ok (.putfield 48, 3) := by decide +kernel
theorem d_D_init_76 : decode b_D_init 76 = .ok (.aload_n 0, 1) := by decide +kernel
theorem d_D_init_77 : decode b_D_init 77 = .ok (.new 45, 3) := by decide +kernel
theorem d_D_init_80 : decode b_D_init 80 = .ok (.dup, 1) := by decide +kernel
theorem d_D_init_81 : decode b_D_init 81 = .ok (.invokespecial 47, 3) := by decide +kernel
theorem d_D_init_84 : decode b_D_init 84 = .ok (.putfield 52, 3) := by decide +kernel
theorem d_D_init_87 : decode b_D_init 87 = .ok (.return_, 1) := by decide +kernel
theorem d_K_thrown_0 : decode b_K_thrown 0 = .ok (.aload_n 0, 1) := by decide +kernel
theorem d_K_thrown_1 : decode b_K_thrown 1 = .ok (.getfield 47, 3) := by decide +kernel
theorem d_K_thrown_4 : decode b_K_thrown 4 = .ok (.ireturn, 1) := by decide +kernel
theorem d_K_isDown_0 : decode b_K_isDown 0 = .ok (.aload_n 0, 1) := by decide +kernel
theorem d_K_isDown_1 : decode b_K_isDown 1 = .ok (.iconst 0, 1) := by decide +kernel
theorem d_K_isDown_2 : decode b_K_isDown 2 = .ok (.putfield 47, 3) := by decide +kernel
theorem d_K_isDown_5 : decode b_K_isDown 5 = .ok (.aload_n 0, 1) := by decide +kernel
theorem d_K_isDown_6 : decode b_K_isDown 6 = .ok (.getfield 50, 3) := by decide +kernel
theorem d_K_isDown_9 : decode b_K_isDown 9 = .ok (.ireturn, 1) := by decide +kernel
theorem d_K_writes_0 : decode b_K_writes 0 = .ok (.aload_n 0, 1) := by decide +kernel
theorem d_K_writes_1 : decode b_K_writes 1 = .ok (.iconst 0, 1) := by decide +kernel
theorem d_K_writes_2 : decode b_K_writes 2 = .ok (.putfield 47, 3) := by decide +kernel
theorem d_K_writes_5 : decode b_K_writes 5 = .ok (.aload_n 0, 1) := by decide +kernel
theorem d_K_writes_6 : decode b_K_writes 6 = .ok (.getfield 75, 3) := by decide +kernel
theorem d_K_writes_9 : decode b_K_writes 9 = .ok (.ireturn, 1) := by decide +kernel
theorem d_K_drop_0 : decode b_K_drop 0 = .ok (.aload_n 0, 1) := by decide +kernel
theorem d_K_drop_1 : decode b_K_drop 1 = .ok (.aload_n 0, 1) := by decide +kernel
theorem d_K_drop_2 : decode b_K_drop 2 = .ok (.getfield 50, 3) := by decide +kernel
theorem d_K_drop_5 : decode b_K_drop 5 = .ok (.ifCond .eq 7, 3) := by decide +kernel
theorem d_K_drop_8 : decode b_K_drop 8 = .ok (.iconst 1, 1) := by decide +kernel
theorem d_K_drop_9 : decode b_K_drop 9 = .ok (.goto 4, 3) := by decide +kernel
theorem d_K_drop_12 : decode b_K_drop 12 = .ok (.iconst 0, 1) := by decide +kernel
theorem d_K_drop_13 : decode b_K_drop 13 = .ok (.putfield 47, 3) := by decide +kernel
theorem d_K_drop_16 : decode b_K_drop 16 = .ok (.aload_n 0, 1) := by decide +kernel
theorem d_K_drop_17 : decode b_K_drop 17 = .ok (.getfield 47, 3) := by decide +kernel
theorem d_K_drop_20 : decode b_K_drop 20 = .ok (.ifCond .le 5, 3) := by decide +kernel
theorem d_K_drop_23 : decode b_K_drop 23 = .ok (.iconst 0, 1) := by decide +kernel
theorem d_K_drop_24 : decode b_K_drop 24 = .ok (.ireturn, 1) := by decide +kernel
theorem d_K_drop_25 : decode b_K_drop 25 = .ok (.aload_n 0, 1) := by decide +kernel
theorem d_K_drop_26 : decode b_K_drop 26 = .ok (.getfield 54, 3) := by decide +kernel
theorem d_K_drop_29 : decode b_K_drop 29 = .ok (.istore_n 1, 1) := by decide +kernel
theorem d_K_drop_30 : decode b_K_drop 30 = .ok (.aload_n 0, 1) := by decide +kernel
theorem d_K_drop_31 : decode b_K_drop 31 = .ok (.iconst 0, 1) := by decide +kernel
theorem d_K_drop_32 : decode b_K_drop 32 = .ok (.putfield 54, 3) := by decide +kernel
theorem d_K_drop_35 : decode b_K_drop 35 = .ok (.iload_n 1, 1) := by decide +kernel
theorem d_K_drop_36 : decode b_K_drop 36 = .ok (.ireturn, 1) := by decide +kernel
theorem d_K_wish_0 : decode b_K_wish 0 = .ok (.aload_n 0, 1) := by decide +kernel
theorem d_K_wish_1 : decode b_K_wish 1 = .ok (.iload_n 1, 1) := by decide +kernel
theorem d_K_wish_2 : decode b_K_wish 2 = .ok (.ifCond .lt 9, 3) := by decide +kernel
theorem d_K_wish_5 : decode b_K_wish 5 = .ok (.iload_n 1, 1) := by decide +kernel
theorem d_K_wish_6 : decode b_K_wish 6 = .ok (.bipush 23, 2) := by decide +kernel
theorem d_K_wish_8 : decode b_K_wish 8 = .ok (.if_icmp .le 7, 3) := by decide +kernel
theorem d_K_wish_11 : decode b_K_wish 11 = .ok (.iconst 1, 1) := by decide +kernel
theorem d_K_wish_12 : decode b_K_wish 12 = .ok (.goto 15, 3) := by decide +kernel
theorem d_K_wish_15 : decode b_K_wish 15 = .ok (.aload_n 0, 1) := by decide +kernel
theorem d_K_wish_16 : decode b_K_wish 16 = .ok (.getfield 50, 3) := by decide +kernel
theorem d_K_wish_19 : decode b_K_wish 19 = .ok (.ifCond .eq 7, 3) := by decide +kernel
theorem d_K_wish_22 : decode b_K_wish 22 = .ok (.iconst 2, 1) := by decide +kernel
theorem d_K_wish_23 : decode b_K_wish 23 = .ok (.goto 4, 3) := by decide +kernel
theorem d_K_wish_26 : decode b_K_wish 26 = .ok (.iconst 0, 1) := by decide +kernel
theorem d_K_wish_27 : decode b_K_wish 27 = .ok (.putfield 47, 3) := by decide +kernel
theorem d_K_wish_30 : decode b_K_wish 30 = .ok (.aload_n 0, 1) := by decide +kernel
theorem d_K_wish_31 : decode b_K_wish 31 = .ok (.getfield 47, 3) := by decide +kernel
theorem d_K_wish_34 : decode b_K_wish 34 = .ok (.ifCond .le 5, 3) := by decide +kernel
theorem d_K_wish_37 : decode b_K_wish 37 = .ok (.iconst 0, 1) := by decide +kernel
theorem d_K_wish_38 : decode b_K_wish 38 = .ok (.ireturn, 1) := by decide +kernel
theorem d_K_wish_39 : decode b_K_wish 39 = .ok (.aload_n 0, 1) := by decide +kernel
theorem d_K_wish_40 : decode b_K_wish 40 = .ok (.getfield 38, 3) := by decide +kernel
theorem d_K_wish_43 : decode b_K_wish 43 = .ok (.iload_n 1, 1) := by decide +kernel
theorem d_K_wish_44 : decode b_K_wish 44 = .ok (.iaload, 1) := by decide +kernel
theorem d_K_wish_45 : decode b_K_wish 45 = .ok (.istore_n 3, 1) := by decide +kernel
theorem d_K_wish_46 : decode b_K_wish 46 = .ok (.aload_n 0, 1) := by decide +kernel
theorem d_K_wish_47 : decode b_K_wish 47 = .ok (.getfield 38, 3) := by decide +kernel
theorem d_K_wish_50 : decode b_K_wish 50 = .ok (.iload_n 1, 1) := by decide +kernel
theorem d_K_wish_51 : decode b_K_wish 51 = .ok (.iload_n 2, 1) := by decide +kernel
theorem d_K_wish_52 : decode b_K_wish 52 = .ok (.iastore, 1) := by decide +kernel
theorem d_K_wish_53 : decode b_K_wish 53 = .ok (.iload_n 3, 1) := by decide +kernel
theorem d_K_wish_54 : decode b_K_wish 54 = .ok (.ireturn, 1) := by decide +kernel
theorem d_K_note_0 : decode b_K_note 0 = .ok (.aload_n 0, 1) := by decide +kernel
theorem d_K_note_1 : decode b_K_note 1 = .ok (.iload_n 1, 1) := by decide +kernel
theorem d_K_note_2 : decode b_K_note 2 = .ok (.ifCond .lt 9, 3) := by decide +kernel
theorem d_K_note_5 : decode b_K_note 5 = .ok (.iload_n 1, 1) := by decide +kernel
theorem d_K_note_6 : decode b_K_note 6 = .ok (.bipush 23, 2) := by decide +kernel
theorem d_K_note_8 : decode b_K_note 8 = .ok (.if_icmp .le 7, 3) := by decide +kernel
theorem d_K_note_11 : decode b_K_note 11 = .ok (.iconst 1, 1) := by decide +kernel
theorem d_K_note_12 : decode b_K_note 12 = .ok (.goto 15, 3) := by decide +kernel
theorem d_K_note_15 : decode b_K_note 15 = .ok (.aload_n 0, 1) := by decide +kernel
theorem d_K_note_16 : decode b_K_note 16 = .ok (.getfield 50, 3) := by decide +kernel
theorem d_K_note_19 : decode b_K_note 19 = .ok (.ifCond .eq 7, 3) := by decide +kernel
theorem d_K_note_22 : decode b_K_note 22 = .ok (.iconst 2, 1) := by decide +kernel
theorem d_K_note_23 : decode b_K_note 23 = .ok (.goto 4, 3) := by decide +kernel
theorem d_K_note_26 : decode b_K_note 26 = .ok (.iconst 0, 1) := by decide +kernel
theorem d_K_note_27 : decode b_K_note 27 = .ok (.putfield 47, 3) := by decide +kernel
theorem d_K_note_30 : decode b_K_note 30 = .ok (.aload_n 0, 1) := by decide +kernel
theorem d_K_note_31 : decode b_K_note 31 = .ok (.getfield 47, 3) := by decide +kernel
theorem d_K_note_34 : decode b_K_note 34 = .ok (.ifCond .le 7, 3) := by decide +kernel
theorem d_K_note_37 : decode b_K_note 37 = .ok (.iconst 0, 1) := by decide +kernel
theorem d_K_note_38 : decode b_K_note 38 = .ok (.goto 9, 3) := by decide +kernel
theorem d_K_note_41 : decode b_K_note 41 = .ok (.aload_n 0, 1) := by decide +kernel
theorem d_K_note_42 : decode b_K_note 42 = .ok (.getfield 26, 3) := by decide +kernel
theorem d_K_note_45 : decode b_K_note 45 = .ok (.iload_n 1, 1) := by decide +kernel
theorem d_K_note_46 : decode b_K_note 46 = .ok (.iaload, 1) := by decide +kernel
theorem d_K_note_47 : decode b_K_note 47 = .ok (.ireturn, 1) := by decide +kernel
theorem d_K_put_0 : decode b_K_put 0 = .ok (.aload_n 0, 1) := by decide +kernel
theorem d_K_put_1 : decode b_K_put 1 = .ok (.iload_n 3, 1) := by decide +kernel
theorem d_K_put_2 : decode b_K_put 2 = .ok (.iconst 1, 1) := by decide +kernel
theorem d_K_put_3 : decode b_K_put 3 = .ok (.if_icmp .lt 9, 3) := by decide +kernel
theorem d_K_put_6 : decode b_K_put 6 = .ok (.iload_n 3, 1) := by decide +kernel
theorem d_K_put_7 : decode b_K_put 7 = .ok (.bipush 8, 2) := by decide +kernel
theorem d_K_put_9 : decode b_K_put 9 = .ok (.if_icmp .le 7, 3) := by decide +kernel
theorem d_K_put_12 : decode b_K_put 12 = .ok (.iconst 1, 1) := by decide +kernel
theorem d_K_put_13 : decode b_K_put 13 = .ok (.goto 32, 3) := by decide +kernel
theorem d_K_put_16 : decode b_K_put 16 = .ok (.aload_n 0, 1) := by decide +kernel
theorem d_K_put_17 : decode b_K_put 17 = .ok (.getfield 50, 3) := by decide +kernel
theorem d_K_put_20 : decode b_K_put 20 = .ok (.ifCond .ne 20, 3) := by decide +kernel
theorem d_K_put_23 : decode b_K_put 23 = .ok (.aload_n 0, 1) := by decide +kernel
theorem d_K_put_24 : decode b_K_put 24 = .ok (.getfield 54, 3) := by decide +kernel
theorem d_K_put_27 : decode b_K_put 27 = .ok (.iload_n 3, 1) := by decide +kernel
theorem d_K_put_28 : decode b_K_put 28 = .ok (.iadd, 1) := by decide +kernel
theorem d_K_put_29 : decode b_K_put 29 = .ok (.sipush 4096, 3) := by decide +kernel
theorem d_K_put_32 : decode b_K_put 32 = .ok (.aload_n 0, 1) := by decide +kernel
theorem d_K_put_33 : decode b_K_put 33 = .ok (.getfield 44, 3) := by decide +kernel
theorem d_K_put_36 : decode b_K_put 36 = .ok (.imul, 1) := by decide +kernel
theorem d_K_put_37 : decode b_K_put 37 = .ok (.if_icmp .le 7, 3) := by decide +kernel
theorem d_K_put_40 : decode b_K_put 40 = .ok (.iconst 2, 1) := by decide +kernel
theorem d_K_put_41 : decode b_K_put 41 = .ok (.goto 4, 3) := by decide +kernel
theorem d_K_put_44 : decode b_K_put 44 = .ok (.iconst 0, 1) := by decide +kernel
theorem d_K_put_45 : decode b_K_put 45 = .ok (.putfield 47, 3) := by decide +kernel
theorem d_K_put_48 : decode b_K_put 48 = .ok (.aload_n 0, 1) := by decide +kernel
theorem d_K_put_49 : decode b_K_put 49 = .ok (.getfield 47, 3) := by decide +kernel
theorem d_K_put_52 : decode b_K_put 52 = .ok (.ifCond .le 5, 3) := by decide +kernel
theorem d_K_put_55 : decode b_K_put 55 = .ok (.iconst 0, 1) := by decide +kernel
theorem d_K_put_56 : decode b_K_put 56 = .ok (.ireturn, 1) := by decide +kernel
theorem d_K_put_57 : decode b_K_put 57 = .ok (.iload_n 3, 1) := by decide +kernel
theorem d_K_put_58 : decode b_K_put 58 = .ok (.iconst 1, 1) := by decide +kernel
theorem d_K_put_59 : decode b_K_put 59 = .ok (.isub, 1) := by decide +kernel
theorem d_K_put_60 : decode b_K_put 60 = .ok (.istore 4, 2) := by decide +kernel
theorem d_K_put_62 : decode b_K_put 62 = .ok (.iload 4, 2) := by decide +kernel
theorem d_K_put_64 : decode b_K_put 64 = .ok (.ifCond .lt 37, 3) := by decide +kernel
theorem d_K_put_67 : decode b_K_put 67 = .ok (.aload_n 0, 1) := by decide +kernel
theorem d_K_put_68 : decode b_K_put 68 = .ok (.getfield 41, 3) := by decide +kernel
theorem d_K_put_71 : decode b_K_put 71 = .ok (.aload_n 0, 1) := by decide +kernel
theorem d_K_put_72 : decode b_K_put 72 = .ok (.getfield 54, 3) := by decide +kernel
theorem d_K_put_75 : decode b_K_put 75 = .ok (.lload_n 1, 1) := by decide +kernel
theorem d_K_put_76 : decode b_K_put 76 = .ok (.bipush 8, 2) := by decide +kernel
theorem d_K_put_78 : decode b_K_put 78 = .ok (.iload 4, 2) := by decide +kernel
theorem d_K_put_80 : decode b_K_put 80 = .ok (.imul, 1) := by decide +kernel
theorem d_K_put_81 : decode b_K_put 81 = .ok (.lshr, 1) := by decide +kernel
theorem d_K_put_82 : decode b_K_put 82 = .ok (.l2i, 1) := by decide +kernel
theorem d_K_put_83 : decode b_K_put 83 = .ok (.i2b, 1) := by decide +kernel
theorem d_K_put_84 : decode b_K_put 84 = .ok (.bastore, 1) := by decide +kernel
theorem d_K_put_85 : decode b_K_put 85 = .ok (.aload_n 0, 1) := by decide +kernel
theorem d_K_put_86 : decode b_K_put 86 = .ok (.dup, 1) := by decide +kernel
theorem d_K_put_87 : decode b_K_put 87 = .ok (.getfield 54, 3) := by decide +kernel
theorem d_K_put_90 : decode b_K_put 90 = .ok (.iconst 1, 1) := by decide +kernel
theorem d_K_put_91 : decode b_K_put 91 = .ok (.iadd, 1) := by decide +kernel
theorem d_K_put_92 : decode b_K_put 92 = .ok (.putfield 54, 3) := by decide +kernel
theorem d_K_put_95 : decode b_K_put 95 = .ok (.iinc 4 (-1), 3) := by decide +kernel
theorem d_K_put_98 : decode b_K_put 98 = .ok (.goto (-36), 3) := by decide +kernel
theorem d_K_put_101 : decode b_K_put 101 = .ok (.aload_n 0, 1) := by decide +kernel
theorem d_K_put_102 : decode b_K_put 102 = .ok (.getfield 54, 3) := by decide +kernel
theorem d_K_put_105 : decode b_K_put 105 = .ok (.ireturn, 1) := by decide +kernel
theorem d_K_fill_0 : decode b_K_fill 0 = .ok (.aload_n 0, 1) := by decide +kernel
theorem d_K_fill_1 : decode b_K_fill 1 = .ok (.iload_n 2, 1) := by decide +kernel
theorem d_K_fill_2 : decode b_K_fill 2 = .ok (.iconst 1, 1) := by decide +kernel
theorem d_K_fill_3 : decode b_K_fill 3 = .ok (.if_icmp .lt 9, 3) := by decide +kernel
theorem d_K_fill_6 : decode b_K_fill 6 = .ok (.iload_n 2, 1) := by decide +kernel
theorem d_K_fill_7 : decode b_K_fill 7 = .ok (.ldc 57, 2) := by decide +kernel
theorem d_K_fill_9 : decode b_K_fill 9 = .ok (.if_icmp .le 7, 3) := by decide +kernel
theorem d_K_fill_12 : decode b_K_fill 12 = .ok (.iconst 1, 1) := by decide +kernel
theorem d_K_fill_13 : decode b_K_fill 13 = .ok (.goto 32, 3) := by decide +kernel
theorem d_K_fill_16 : decode b_K_fill 16 = .ok (.aload_n 0, 1) := by decide +kernel
theorem d_K_fill_17 : decode b_K_fill 17 = .ok (.getfield 50, 3) := by decide +kernel
theorem d_K_fill_20 : decode b_K_fill 20 = .ok (.ifCond .ne 20, 3) := by decide +kernel
theorem d_K_fill_23 : decode b_K_fill 23 = .ok (.aload_n 0, 1) := by decide +kernel
theorem d_K_fill_24 : decode b_K_fill 24 = .ok (.getfield 54, 3) := by decide +kernel
theorem d_K_fill_27 : decode b_K_fill 27 = .ok (.iload_n 2, 1) := by decide +kernel
theorem d_K_fill_28 : decode b_K_fill 28 = .ok (.iadd, 1) := by decide +kernel
theorem d_K_fill_29 : decode b_K_fill 29 = .ok (.sipush 4096, 3) := by decide +kernel
theorem d_K_fill_32 : decode b_K_fill 32 = .ok (.aload_n 0, 1) := by decide +kernel
theorem d_K_fill_33 : decode b_K_fill 33 = .ok (.getfield 44, 3) := by decide +kernel
theorem d_K_fill_36 : decode b_K_fill 36 = .ok (.imul, 1) := by decide +kernel
theorem d_K_fill_37 : decode b_K_fill 37 = .ok (.if_icmp .le 7, 3) := by decide +kernel
theorem d_K_fill_40 : decode b_K_fill 40 = .ok (.iconst 2, 1) := by decide +kernel
theorem d_K_fill_41 : decode b_K_fill 41 = .ok (.goto 4, 3) := by decide +kernel
theorem d_K_fill_44 : decode b_K_fill 44 = .ok (.iconst 0, 1) := by decide +kernel
theorem d_K_fill_45 : decode b_K_fill 45 = .ok (.putfield 47, 3) := by decide +kernel
theorem d_K_fill_48 : decode b_K_fill 48 = .ok (.aload_n 0, 1) := by decide +kernel
theorem d_K_fill_49 : decode b_K_fill 49 = .ok (.getfield 47, 3) := by decide +kernel
theorem d_K_fill_52 : decode b_K_fill 52 = .ok (.ifCond .le 5, 3) := by decide +kernel
theorem d_K_fill_55 : decode b_K_fill 55 = .ok (.iconst 0, 1) := by decide +kernel
theorem d_K_fill_56 : decode b_K_fill 56 = .ok (.ireturn, 1) := by decide +kernel
theorem d_K_fill_57 : decode b_K_fill 57 = .ok (.iconst 0, 1) := by decide +kernel
theorem d_K_fill_58 : decode b_K_fill 58 = .ok (.istore_n 3, 1) := by decide +kernel
theorem d_K_fill_59 : decode b_K_fill 59 = .ok (.iload_n 3, 1) := by decide +kernel
theorem d_K_fill_60 : decode b_K_fill 60 = .ok (.iload_n 2, 1) := by decide +kernel
theorem d_K_fill_61 : decode b_K_fill 61 = .ok (.if_icmp .ge 32, 3) := by decide +kernel
theorem d_K_fill_64 : decode b_K_fill 64 = .ok (.aload_n 0, 1) := by decide +kernel
theorem d_K_fill_65 : decode b_K_fill 65 = .ok (.getfield 41, 3) := by decide +kernel
theorem d_K_fill_68 : decode b_K_fill 68 = .ok (.aload_n 0, 1) := by decide +kernel
theorem d_K_fill_69 : decode b_K_fill 69 = .ok (.getfield 54, 3) := by decide +kernel
theorem d_K_fill_72 : decode b_K_fill 72 = .ok (.iload_n 1, 1) := by decide +kernel
theorem d_K_fill_73 : decode b_K_fill 73 = .ok (.iload_n 3, 1) := by decide +kernel
theorem d_K_fill_74 : decode b_K_fill 74 = .ok (.iadd, 1) := by decide +kernel
theorem d_K_fill_75 : decode b_K_fill 75 = .ok (.i2b, 1) := by decide +kernel
theorem d_K_fill_76 : decode b_K_fill 76 = .ok (.bastore, 1) := by decide +kernel
theorem d_K_fill_77 : decode b_K_fill 77 = .ok (.aload_n 0, 1) := by decide +kernel
theorem d_K_fill_78 : decode b_K_fill 78 = .ok (.dup, 1) := by decide +kernel
theorem d_K_fill_79 : decode b_K_fill 79 = .ok (.getfield 54, 3) := by decide +kernel
theorem d_K_fill_82 : decode b_K_fill 82 = .ok (.iconst 1, 1) := by decide +kernel
theorem d_K_fill_83 : decode b_K_fill 83 = .ok (.iadd, 1) := by decide +kernel
theorem d_K_fill_84 : decode b_K_fill 84 = .ok (.putfield 54, 3) := by decide +kernel
theorem d_K_fill_87 : decode b_K_fill 87 = .ok (.iinc 3 1, 3) := by decide +kernel
theorem d_K_fill_90 : decode b_K_fill 90 = .ok (.goto (-31), 3) := by decide +kernel
theorem d_K_fill_93 : decode b_K_fill 93 = .ok (.aload_n 0, 1) := by decide +kernel
theorem d_K_fill_94 : decode b_K_fill 94 = .ok (.getfield 54, 3) := by decide +kernel
theorem d_K_fill_97 : decode b_K_fill 97 = .ok (.ireturn, 1) := by decide +kernel
theorem d_K_mark_0 : decode b_K_mark 0 = .ok (.iconst 0, 1) := by decide +kernel
theorem d_K_mark_1 : decode b_K_mark 1 = .ok (.istore_n 1, 1) := by decide +kernel
theorem d_K_mark_2 : decode b_K_mark 2 = .ok (.iload_n 1, 1) := by decide +kernel
theorem d_K_mark_3 : decode b_K_mark 3 = .ok (.sipush 128, 3) := by decide +kernel
theorem d_K_mark_6 : decode b_K_mark 6 = .ok (.if_icmp .ge 25, 3) := by decide +kernel
theorem d_K_mark_9 : decode b_K_mark 9 = .ok (.aload_n 0, 1) := by decide +kernel
theorem d_K_mark_10 : decode b_K_mark 10 = .ok (.getfield 34, 3) := by decide +kernel
theorem d_K_mark_13 : decode b_K_mark 13 = .ok (.iload_n 1, 1) := by decide +kernel
theorem d_K_mark_14 : decode b_K_mark 14 = .ok (.iload_n 1, 1) := by decide +kernel
theorem d_K_mark_15 : decode b_K_mark 15 = .ok (.iconst 2, 1) := by decide +kernel
theorem d_K_mark_16 : decode b_K_mark 16 = .ok (.if_icmp .ge 7, 3) := by decide +kernel
theorem d_K_mark_19 : decode b_K_mark 19 = .ok (.iconst 1, 1) := by decide +kernel
theorem d_K_mark_20 : decode b_K_mark 20 = .ok (.goto 4, 3) := by decide +kernel
theorem d_K_mark_23 : decode b_K_mark 23 = .ok (.iconst 0, 1) := by decide +kernel
theorem d_K_mark_24 : decode b_K_mark 24 = .ok (.bastore, 1) := by decide +kernel
theorem d_K_mark_25 : decode b_K_mark 25 = .ok (.iinc 1 1, 3) := by decide +kernel
theorem d_K_mark_28 : decode b_K_mark 28 = .ok (.goto (-26), 3) := by decide +kernel
theorem d_K_mark_31 : decode b_K_mark 31 = .ok (.iconst 0, 1) := by decide +kernel
theorem d_K_mark_32 : decode b_K_mark 32 = .ok (.istore_n 1, 1) := by decide +kernel
theorem d_K_mark_33 : decode b_K_mark 33 = .ok (.iload_n 1, 1) := by decide +kernel
theorem d_K_mark_34 : decode b_K_mark 34 = .ok (.aload_n 0, 1) := by decide +kernel
theorem d_K_mark_35 : decode b_K_mark 35 = .ok (.getfield 58, 3) := by decide +kernel
theorem d_K_mark_38 : decode b_K_mark 38 = .ok (.if_icmp .ge 46, 3) := by decide +kernel
theorem d_K_mark_41 : decode b_K_mark 41 = .ok (.aload_n 0, 1) := by decide +kernel
theorem d_K_mark_42 : decode b_K_mark 42 = .ok (.getfield 17, 3) := by decide +kernel
theorem d_K_mark_45 : decode b_K_mark 45 = .ok (.iload_n 1, 1) := by decide +kernel
theorem d_K_mark_46 : decode b_K_mark 46 = .ok (.iaload, 1) := by decide +kernel
theorem d_K_mark_47 : decode b_K_mark 47 = .ok (.istore_n 2, 1) := by decide +kernel
theorem d_K_mark_48 : decode b_K_mark 48 = .ok (.iload_n 2, 1) := by decide +kernel
theorem d_K_mark_49 : decode b_K_mark 49 = .ok (.aload_n 0, 1) := by decide +kernel
theorem d_K_mark_50 : decode b_K_mark 50 = .ok (.getfield 17, 3) := by decide +kernel
theorem d_K_mark_53 : decode b_K_mark 53 = .ok (.iload_n 1, 1) := by decide +kernel
theorem d_K_mark_54 : decode b_K_mark 54 = .ok (.iaload, 1) := by decide +kernel
theorem d_K_mark_55 : decode b_K_mark 55 = .ok (.aload_n 0, 1) := by decide +kernel
theorem d_K_mark_56 : decode b_K_mark 56 = .ok (.getfield 20, 3) := by decide +kernel
theorem d_K_mark_59 : decode b_K_mark 59 = .ok (.iload_n 1, 1) := by decide +kernel
theorem d_K_mark_60 : decode b_K_mark 60 = .ok (.iaload, 1) := by decide +kernel
theorem d_K_mark_61 : decode b_K_mark 61 = .ok (.iadd, 1) := by decide +kernel
theorem d_K_mark_62 : decode b_K_mark 62 = .ok (.if_icmp .ge 16, 3) := by decide +kernel
theorem d_K_mark_65 : decode b_K_mark 65 = .ok (.aload_n 0, 1) := by decide +kernel
theorem d_K_mark_66 : decode b_K_mark 66 = .ok (.getfield 34, 3) := by decide +kernel
theorem d_K_mark_69 : decode b_K_mark 69 = .ok (.iload_n 2, 1) := by decide +kernel
theorem d_K_mark_70 : decode b_K_mark 70 = .ok (.iconst 1, 1) := by decide +kernel
theorem d_K_mark_71 : decode b_K_mark 71 = .ok (.bastore, 1) := by decide +kernel
theorem d_K_mark_72 : decode b_K_mark 72 = .ok (.iinc 2 1, 3) := by decide +kernel
theorem d_K_mark_75 : decode b_K_mark 75 = .ok (.goto (-27), 3) := by decide +kernel
theorem d_K_mark_78 : decode b_K_mark 78 = .ok (.iinc 1 1, 3) := by decide +kernel
theorem d_K_mark_81 : decode b_K_mark 81 = .ok (.goto (-48), 3) := by decide +kernel
theorem d_K_mark_84 : decode b_K_mark 84 = .ok (.return_, 1) := by decide +kernel
theorem d_K_placeFor_0 : decode b_K_placeFor 0 = .ok (.aload_n 0, 1) := by decide +kernel
theorem d_K_placeFor_1 : decode b_K_placeFor 1 = .ok (.invokevirtual 61, 3) := by decide +kernel
theorem d_K_placeFor_4 : decode b_K_placeFor 4 = .ok (.iconst 2, 1) := by decide +kernel
theorem d_K_placeFor_5 : decode b_K_placeFor 5 = .ok (.istore_n 2, 1) := by decide +kernel
theorem d_K_placeFor_6 : decode b_K_placeFor 6 = .ok (.iload_n 2, 1) := by decide +kernel
theorem d_K_placeFor_7 : decode b_K_placeFor 7 = .ok (.iload_n 1, 1) := by decide +kernel
theorem d_K_placeFor_8 : decode b_K_placeFor 8 = .ok (.iadd, 1) := by decide +kernel
theorem d_K_placeFor_9 : decode b_K_placeFor 9 = .ok (.aload_n 0, 1) := by decide +kernel
theorem d_K_placeFor_10 : decode b_K_placeFor 10 = .ok (.getfield 44, 3) := by decide +kernel
theorem d_K_placeFor_13 : decode b_K_placeFor 13 = .ok (.if_icmp .gt 54, 3) := by decide +kernel
theorem d_K_placeFor_16 : decode b_K_placeFor 16 = .ok (.iconst 1, 1) := by decide +kernel
theorem d_K_placeFor_17 : decode b_K_placeFor 17 = .ok (.istore_n 3, 1) := by decide +kernel
theorem d_K_placeFor_18 : decode b_K_placeFor 18 = .ok (.iload_n 2, 1) := by decide +kernel
theorem d_K_placeFor_19 : decode b_K_placeFor 19 = .ok (.istore 4, 2) := by decide +kernel
theorem d_K_placeFor_21 : decode b_K_placeFor 21 = .ok (.iload 4, 2) := by decide +kernel
theorem d_K_placeFor_23 : decode b_K_placeFor 23 = .ok (.iload_n 2, 1) := by decide +kernel
theorem d_K_placeFor_24 : decode b_K_placeFor 24 = .ok (.iload_n 1, 1) := by decide +kernel
theorem d_K_placeFor_25 : decode b_K_placeFor 25 = .ok (.iadd, 1) := by decide +kernel
theorem d_K_placeFor_26 : decode b_K_placeFor 26 = .ok (.if_icmp .ge 29, 3) := by decide +kernel
theorem d_K_placeFor_29 : decode b_K_placeFor 29 = .ok (.iload_n 3, 1) := by decide +kernel
theorem d_K_placeFor_30 : decode b_K_placeFor 30 = .ok (.ifCond .eq 17, 3) := by decide +kernel
theorem d_K_placeFor_33 : decode b_K_placeFor 33 = .ok (.aload_n 0, 1) := by decide +kernel
theorem d_K_placeFor_34 : decode b_K_placeFor 34 = .ok (.getfield 34, 3) := by decide +kernel
theorem d_K_placeFor_37 : decode b_K_placeFor 37 = .ok (.iload 4, 2) := by decide +kernel
theorem d_K_placeFor_39 : decode b_K_placeFor 39 = .ok (.baload, 1) := by decide +kernel
theorem d_K_placeFor_40 : decode b_K_placeFor 40 = .ok (.ifCond .ne 7, 3) := by decide +kernel
theorem d_K_placeFor_43 : decode b_K_placeFor 43 = .ok (.iconst 1, 1) := by decide +kernel
theorem d_K_placeFor_44 : decode b_K_placeFor 44 = .ok (.goto 4, 3) := by decide +kernel
theorem d_K_placeFor_47 : decode b_K_placeFor 47 = .ok (.iconst 0, 1) := by decide +kernel
theorem d_K_placeFor_48 : decode b_K_placeFor 48 = .ok (.istore_n 3, 1) := by decide +kernel
theorem d_K_placeFor_49 : decode b_K_placeFor 49 = .ok (.iinc 4 1, 3) := by decide +kernel
theorem d_K_placeFor_52 : decode b_K_placeFor 52 = .ok (.goto (-31), 3) := by decide +kernel
theorem d_K_placeFor_55 : decode b_K_placeFor 55 = .ok (.iload_n 3, 1) := by decide +kernel
theorem d_K_placeFor_56 : decode b_K_placeFor 56 = .ok (.ifCond .eq 5, 3) := by decide +kernel
theorem d_K_placeFor_59 : decode b_K_placeFor 59 = .ok (.iload_n 2, 1) := by decide +kernel
theorem d_K_placeFor_60 : decode b_K_placeFor 60 = .ok (.ireturn, 1) := by decide +kernel
theorem d_K_placeFor_61 : decode b_K_placeFor 61 = .ok (.iinc 2 1, 3) := by decide +kernel
theorem d_K_placeFor_64 : decode b_K_placeFor 64 = .ok (.goto (-58), 3) := by decide +kernel
theorem d_K_placeFor_67 : decode b_K_placeFor 67 = .ok (.iconst (-1), 1) := by decide +kernel
theorem d_K_placeFor_68 : decode b_K_placeFor 68 = .ok (.ireturn, 1) := by decide +kernel
theorem d_K_goes_0 : decode b_K_goes 0 = .ok (.aload_n 0, 1) := by decide +kernel
theorem d_K_goes_1 : decode b_K_goes 1 = .ok (.getfield 13, 3) := by decide +kernel
theorem d_K_goes_4 : decode b_K_goes 4 = .ok (.iload_n 1, 1) := by decide +kernel
theorem d_K_goes_5 : decode b_K_goes 5 = .ok (.iaload, 1) := by decide +kernel
theorem d_K_goes_6 : decode b_K_goes 6 = .ok (.iload_n 2, 1) := by decide +kernel
theorem d_K_goes_7 : decode b_K_goes 7 = .ok (.if_icmp .lt 17, 3) := by decide +kernel
theorem d_K_goes_10 : decode b_K_goes 10 = .ok (.aload_n 0, 1) := by decide +kernel
theorem d_K_goes_11 : decode b_K_goes 11 = .ok (.getfield 13, 3) := by decide +kernel
theorem d_K_goes_14 : decode b_K_goes 14 = .ok (.iload_n 1, 1) := by decide +kernel
theorem d_K_goes_15 : decode b_K_goes 15 = .ok (.iaload, 1) := by decide +kernel
theorem d_K_goes_16 : decode b_K_goes 16 = .ok (.iload_n 3, 1) := by decide +kernel
theorem d_K_goes_17 : decode b_K_goes 17 = .ok (.if_icmp .gt 7, 3) := by decide +kernel
theorem d_K_goes_20 : decode b_K_goes 20 = .ok (.iconst 1, 1) := by decide +kernel
theorem d_K_goes_21 : decode b_K_goes 21 = .ok (.goto 4, 3) := by decide +kernel
theorem d_K_goes_24 : decode b_K_goes 24 = .ok (.iconst 0, 1) := by decide +kernel
theorem d_K_goes_25 : decode b_K_goes 25 = .ok (.ireturn, 1) := by decide +kernel
theorem d_K_fail_0 : decode b_K_fail 0 = .ok (.aload_n 0, 1) := by decide +kernel
theorem d_K_fail_1 : decode b_K_fail 1 = .ok (.iconst 1, 1) := by decide +kernel
theorem d_K_fail_2 : decode b_K_fail 2 = .ok (.putfield 50, 3) := by decide +kernel
theorem d_K_fail_5 : decode b_K_fail 5 = .ok (.aload_n 0, 1) := by decide +kernel
theorem d_K_fail_6 : decode b_K_fail 6 = .ok (.iconst (-1), 1) := by decide +kernel
theorem d_K_fail_7 : decode b_K_fail 7 = .ok (.putfield 7, 3) := by decide +kernel
theorem d_K_fail_10 : decode b_K_fail 10 = .ok (.aload_n 0, 1) := by decide +kernel
theorem d_K_fail_11 : decode b_K_fail 11 = .ok (.iconst 0, 1) := by decide +kernel
theorem d_K_fail_12 : decode b_K_fail 12 = .ok (.putfield 54, 3) := by decide +kernel
theorem d_K_fail_15 : decode b_K_fail 15 = .ok (.return_, 1) := by decide +kernel
theorem d_K_happen_0 : decode b_K_happen 0 = .ok (.iconst 0, 1) := by decide +kernel
theorem d_K_happen_1 : decode b_K_happen 1 = .ok (.istore 6, 2) := by decide +kernel
theorem d_K_happen_3 : decode b_K_happen 3 = .ok (.iconst 0, 1) := by decide +kernel
theorem d_K_happen_4 : decode b_K_happen 4 = .ok (.istore 7, 2) := by decide +kernel
theorem d_K_happen_6 : decode b_K_happen 6 = .ok (.iload 7, 2) := by decide +kernel
theorem d_K_happen_8 : decode b_K_happen 8 = .ok (.aload_n 0, 1) := by decide +kernel
theorem d_K_happen_9 : decode b_K_happen 9 = .ok (.getfield 58, 3) := by decide +kernel
theorem d_K_happen_12 : decode b_K_happen 12 = .ok (.if_icmp .ge 79, 3) := by decide +kernel
theorem d_K_happen_15 : decode b_K_happen 15 = .ok (.aload_n 0, 1) := by decide +kernel
theorem d_K_happen_16 : decode b_K_happen 16 = .ok (.iload 7, 2) := by decide +kernel
theorem d_K_happen_18 : decode b_K_happen 18 = .ok (.iload_n 2, 1) := by decide +kernel
theorem d_K_happen_19 : decode b_K_happen 19 = .ok (.iload_n 3, 1) := by decide +kernel
theorem d_K_happen_20 : decode b_K_happen 20 = .ok (.invokevirtual 64, 3) := by decide +kernel
theorem d_K_happen_23 : decode b_K_happen 23 = .ok (.ifCond .ne 62, 3) := by decide +kernel
theorem d_K_happen_26 : decode b_K_happen 26 = .ok (.aload_n 0, 1) := by decide +kernel
theorem d_K_happen_27 : decode b_K_happen 27 = .ok (.getfield 13, 3) := by decide +kernel
theorem d_K_happen_30 : decode b_K_happen 30 = .ok (.iload 6, 2) := by decide +kernel
theorem d_K_happen_32 : decode b_K_happen 32 = .ok (.aload_n 0, 1) := by decide +kernel
theorem d_K_happen_33 : decode b_K_happen 33 = .ok (.getfield 13, 3) := by decide +kernel
theorem d_K_happen_36 : decode b_K_happen 36 = .ok (.iload 7, 2) := by decide +kernel
theorem d_K_happen_38 : decode b_K_happen 38 = .ok (.iaload, 1) := by decide +kernel
theorem d_K_happen_39 : decode b_K_happen 39 = .ok (.iastore, 1) := by decide +kernel
theorem d_K_happen_40 : decode b_K_happen 40 = .ok (.aload_n 0, 1) := by decide +kernel
theorem d_K_happen_41 : decode b_K_happen 41 = .ok (.getfield 17, 3) := by decide +kernel
theorem d_K_happen_44 : decode b_K_happen 44 = .ok (.iload 6, 2) := by decide +kernel
theorem d_K_happen_46 : decode b_K_happen 46 = .ok (.aload_n 0, 1) := by decide +kernel
theorem d_K_happen_47 : decode b_K_happen 47 = .ok (.getfield 17, 3) := by decide +kernel
theorem d_K_happen_50 : decode b_K_happen 50 = .ok (.iload 7, 2) := by decide +kernel
theorem d_K_happen_52 : decode b_K_happen 52 = .ok (.iaload, 1) := by decide +kernel
theorem d_K_happen_53 : decode b_K_happen 53 = .ok (.iastore, 1) := by decide +kernel
theorem d_K_happen_54 : decode b_K_happen 54 = .ok (.aload_n 0, 1) := by decide +kernel
theorem d_K_happen_55 : decode b_K_happen 55 = .ok (.getfield 20, 3) := by decide +kernel
theorem d_K_happen_58 : decode b_K_happen 58 = .ok (.iload 6, 2) := by decide +kernel
theorem d_K_happen_60 : decode b_K_happen 60 = .ok (.aload_n 0, 1) := by decide +kernel
theorem d_K_happen_61 : decode b_K_happen 61 = .ok (.getfield 20, 3) := by decide +kernel
theorem d_K_happen_64 : decode b_K_happen 64 = .ok (.iload 7, 2) := by decide +kernel
theorem d_K_happen_66 : decode b_K_happen 66 = .ok (.iaload, 1) := by decide +kernel
theorem d_K_happen_67 : decode b_K_happen 67 = .ok (.iastore, 1) := by decide +kernel
theorem d_K_happen_68 : decode b_K_happen 68 = .ok (.aload_n 0, 1) := by decide +kernel
theorem d_K_happen_69 : decode b_K_happen 69 = .ok (.getfield 23, 3) := by decide +kernel
theorem d_K_happen_72 : decode b_K_happen 72 = .ok (.iload 6, 2) := by decide +kernel
theorem d_K_happen_74 : decode b_K_happen 74 = .ok (.aload_n 0, 1) := by decide +kernel
theorem d_K_happen_75 : decode b_K_happen 75 = .ok (.getfield 23, 3) := by decide +kernel
theorem d_K_happen_78 : decode b_K_happen 78 = .ok (.iload 7, 2) := by decide +kernel
theorem d_K_happen_80 : decode b_K_happen 80 = .ok (.iaload, 1) := by decide +kernel
theorem d_K_happen_81 : decode b_K_happen 81 = .ok (.iastore, 1) := by decide +kernel
theorem d_K_happen_82 : decode b_K_happen 82 = .ok (.iinc 6 1, 3) := by decide +kernel
theorem d_K_happen_85 : decode b_K_happen 85 = .ok (.iinc 7 1, 3) := by decide +kernel
theorem d_K_happen_88 : decode b_K_happen 88 = .ok (.goto (-82), 3) := by decide +kernel
theorem d_K_happen_91 : decode b_K_happen 91 = .ok (.aload_n 0, 1) := by decide +kernel
theorem d_K_happen_92 : decode b_K_happen 92 = .ok (.iload 6, 2) := by decide +kernel
theorem d_K_happen_94 : decode b_K_happen 94 = .ok (.putfield 58, 3) := by decide +kernel
theorem d_K_happen_97 : decode b_K_happen 97 = .ok (.iload 5, 2) := by decide +kernel
theorem d_K_happen_99 : decode b_K_happen 99 = .ok (.ifCond .le 97, 3) := by decide +kernel
theorem d_K_happen_102 : decode b_K_happen 102 = .ok (.aload_n 0, 1) := by decide +kernel
theorem d_K_happen_103 : decode b_K_happen 103 = .ok (.getfield 13, 3) := by decide +kernel
theorem d_K_happen_106 : decode b_K_happen 106 = .ok (.aload_n 0, 1) := by decide +kernel
theorem d_K_happen_107 : decode b_K_happen 107 = .ok (.getfield 58, 3) := by decide +kernel
theorem d_K_happen_110 : decode b_K_happen 110 = .ok (.iload_n 1, 1) := by decide +kernel
theorem d_K_happen_111 : decode b_K_happen 111 = .ok (.iastore, 1) := by decide +kernel
theorem d_K_happen_112 : decode b_K_happen 112 = .ok (.aload_n 0, 1) := by decide +kernel
theorem d_K_happen_113 : decode b_K_happen 113 = .ok (.getfield 17, 3) := by decide +kernel
theorem d_K_happen_116 : decode b_K_happen 116 = .ok (.aload_n 0, 1) := by decide +kernel
theorem d_K_happen_117 : decode b_K_happen 117 = .ok (.getfield 58, 3) := by decide +kernel
theorem d_K_happen_120 : decode b_K_happen 120 = .ok (.iload 4, 2) := by decide +kernel
theorem d_K_happen_122 : decode b_K_happen 122 = .ok (.iastore, 1) := by decide +kernel
theorem d_K_happen_123 : decode b_K_happen 123 = .ok (.aload_n 0, 1) := by decide +kernel
theorem d_K_happen_124 : decode b_K_happen 124 = .ok (.getfield 20, 3) := by decide +kernel
theorem d_K_happen_127 : decode b_K_happen 127 = .ok (.aload_n 0, 1) := by decide +kernel
theorem d_K_happen_128 : decode b_K_happen 128 = .ok (.getfield 58, 3) := by decide +kernel
theorem d_K_happen_131 : decode b_K_happen 131 = .ok (.iload 5, 2) := by decide +kernel
theorem d_K_happen_133 : decode b_K_happen 133 = .ok (.iastore, 1) := by decide +kernel
theorem d_K_happen_134 : decode b_K_happen 134 = .ok (.aload_n 0, 1) := by decide +kernel
theorem d_K_happen_135 : decode b_K_happen 135 = .ok (.getfield 23, 3) := by decide +kernel
theorem d_K_happen_138 : decode b_K_happen 138 = .ok (.aload_n 0, 1) := by decide +kernel
theorem d_K_happen_139 : decode b_K_happen 139 = .ok (.getfield 58, 3) := by decide +kernel
theorem d_K_happen_142 : decode b_K_happen 142 = .ok (.aload_n 0, 1) := by decide +kernel
theorem d_K_happen_143 : decode b_K_happen 143 = .ok (.getfield 54, 3) := by decide +kernel
theorem d_K_happen_146 : decode b_K_happen 146 = .ok (.iastore, 1) := by decide +kernel
theorem d_K_happen_147 : decode b_K_happen 147 = .ok (.aload_n 0, 1) := by decide +kernel
theorem d_K_happen_148 : decode b_K_happen 148 = .ok (.dup, 1) := by decide +kernel
theorem d_K_happen_149 : decode b_K_happen 149 = .ok (.getfield 58, 3) := by decide +kernel
theorem d_K_happen_152 : decode b_K_happen 152 = .ok (.iconst 1, 1) := by decide +kernel
theorem d_K_happen_153 : decode b_K_happen 153 = .ok (.iadd, 1) := by decide +kernel
theorem d_K_happen_154 : decode b_K_happen 154 = .ok (.putfield 58, 3) := by decide +kernel
theorem d_K_happen_157 : decode b_K_happen 157 = .ok (.iconst 0, 1) := by decide +kernel
theorem d_K_happen_158 : decode b_K_happen 158 = .ok (.istore 7, 2) := by decide +kernel
theorem d_K_happen_160 : decode b_K_happen 160 = .ok (.iload 7, 2) := by decide +kernel
theorem d_K_happen_162 : decode b_K_happen 162 = .ok (.aload_n 0, 1) := by decide +kernel
theorem d_K_happen_163 : decode b_K_happen 163 = .ok (.getfield 54, 3) := by decide +kernel
theorem d_K_happen_166 : decode b_K_happen 166 = .ok (.if_icmp .ge 30, 3) := by decide +kernel
theorem d_K_happen_169 : decode b_K_happen 169 = .ok (.aload_n 0, 1) := by decide +kernel
theorem d_K_happen_170 : decode b_K_happen 170 = .ok (.getfield 30, 3) := by decide +kernel
theorem d_K_happen_173 : decode b_K_happen 173 = .ok (.sipush 4096, 3) := by decide +kernel
theorem d_K_happen_176 : decode b_K_happen 176 = .ok (.iload 4, 2) := by decide +kernel
theorem d_K_happen_178 : decode b_K_happen 178 = .ok (.imul, 1) := by decide +kernel
theorem d_K_happen_179 : decode b_K_happen 179 = .ok (.iload 7, 2) := by decide +kernel
theorem d_K_happen_181 : decode b_K_happen 181 = .ok (.iadd, 1) := by decide +kernel
theorem d_K_happen_182 : decode b_K_happen 182 = .ok (.aload_n 0, 1) := by decide +kernel
theorem d_K_happen_183 : decode b_K_happen 183 = .ok (.getfield 41, 3) := by decide +kernel
theorem d_K_happen_186 : decode b_K_happen 186 = .ok (.iload 7, 2) := by decide +kernel
theorem d_K_happen_188 : decode b_K_happen 188 = .ok (.baload, 1) := by decide +kernel
theorem d_K_happen_189 : decode b_K_happen 189 = .ok (.bastore, 1) := by decide +kernel
theorem d_K_happen_190 : decode b_K_happen 190 = .ok (.iinc 7 1, 3) := by decide +kernel
theorem d_K_happen_193 : decode b_K_happen 193 = .ok (.goto (-33), 3) := by decide +kernel
theorem d_K_happen_196 : decode b_K_happen 196 = .ok (.iconst 0, 1) := by decide +kernel
theorem d_K_happen_197 : decode b_K_happen 197 = .ok (.istore 7, 2) := by decide +kernel
theorem d_K_happen_199 : decode b_K_happen 199 = .ok (.iload 7, 2) := by decide +kernel
theorem d_K_happen_201 : decode b_K_happen 201 = .ok (.bipush 24, 2) := by decide +kernel
theorem d_K_happen_203 : decode b_K_happen 203 = .ok (.if_icmp .ge 23, 3) := by decide +kernel
theorem d_K_happen_206 : decode b_K_happen 206 = .ok (.aload_n 0, 1) := by decide +kernel
theorem d_K_happen_207 : decode b_K_happen 207 = .ok (.getfield 26, 3) := by decide +kernel
theorem d_K_happen_210 : decode b_K_happen 210 = .ok (.iload 7, 2) := by decide +kernel
theorem d_K_happen_212 : decode b_K_happen 212 = .ok (.aload_n 0, 1) := by decide +kernel
theorem d_K_happen_213 : decode b_K_happen 213 = .ok (.getfield 38, 3) := by decide +kernel
theorem d_K_happen_216 : decode b_K_happen 216 = .ok (.iload 7, 2) := by decide +kernel
theorem d_K_happen_218 : decode b_K_happen 218 = .ok (.iaload, 1) := by decide +kernel
theorem d_K_happen_219 : decode b_K_happen 219 = .ok (.iastore, 1) := by decide +kernel
theorem d_K_happen_220 : decode b_K_happen 220 = .ok (.iinc 7 1, 3) := by decide +kernel
theorem d_K_happen_223 : decode b_K_happen 223 = .ok (.goto (-24), 3) := by decide +kernel
theorem d_K_happen_226 : decode b_K_happen 226 = .ok (.aload_n 0, 1) := by decide +kernel
theorem d_K_happen_227 : decode b_K_happen 227 = .ok (.dup, 1) := by decide +kernel
theorem d_K_happen_228 : decode b_K_happen 228 = .ok (.getfield 68, 3) := by decide +kernel
theorem d_K_happen_231 : decode b_K_happen 231 = .ok (.iconst 1, 1) := by decide +kernel
theorem d_K_happen_232 : decode b_K_happen 232 = .ok (.iadd, 1) := by decide +kernel
theorem d_K_happen_233 : decode b_K_happen 233 = .ok (.putfield 68, 3) := by decide +kernel
theorem d_K_happen_236 : decode b_K_happen 236 = .ok (.return_, 1) := by decide +kernel
theorem d_K_isExtent_0 : decode b_K_isExtent 0 = .ok (.aload_n 0, 1) := by decide +kernel
theorem d_K_isExtent_1 : decode b_K_isExtent 1 = .ok (.getfield 50, 3) := by decide +kernel
theorem d_K_isExtent_4 : decode b_K_isExtent 4 = .ok (.ifCond .ne 19, 3) := by decide +kernel
theorem d_K_isExtent_7 : decode b_K_isExtent 7 = .ok (.iload_n 1, 1) := by decide +kernel
theorem d_K_isExtent_8 : decode b_K_isExtent 8 = .ok (.ifCond .lt 15, 3) := by decide +kernel
theorem d_K_isExtent_11 : decode b_K_isExtent 11 = .ok (.iload_n 1, 1) := by decide +kernel
theorem d_K_isExtent_12 : decode b_K_isExtent 12 = .ok (.aload_n 0, 1) := by decide +kernel
theorem d_K_isExtent_13 : decode b_K_isExtent 13 = .ok (.getfield 58, 3) := by decide +kernel
theorem d_K_isExtent_16 : decode b_K_isExtent 16 = .ok (.if_icmp .ge 7, 3) := by decide +kernel
theorem d_K_isExtent_19 : decode b_K_isExtent 19 = .ok (.iconst 1, 1) := by decide +kernel
theorem d_K_isExtent_20 : decode b_K_isExtent 20 = .ok (.goto 4, 3) := by decide +kernel
theorem d_K_isExtent_23 : decode b_K_isExtent 23 = .ok (.iconst 0, 1) := by decide +kernel
theorem d_K_isExtent_24 : decode b_K_isExtent 24 = .ok (.ireturn, 1) := by decide +kernel
theorem d_K_extent_0 : decode b_K_extent 0 = .ok (.aload_n 0, 1) := by decide +kernel
theorem d_K_extent_1 : decode b_K_extent 1 = .ok (.aload_n 0, 1) := by decide +kernel
theorem d_K_extent_2 : decode b_K_extent 2 = .ok (.iload_n 1, 1) := by decide +kernel
theorem d_K_extent_3 : decode b_K_extent 3 = .ok (.invokevirtual 85, 3) := by decide +kernel
theorem d_K_extent_6 : decode b_K_extent 6 = .ok (.ifCond .eq 16, 3) := by decide +kernel
theorem d_K_extent_9 : decode b_K_extent 9 = .ok (.iload_n 2, 1) := by decide +kernel
theorem d_K_extent_10 : decode b_K_extent 10 = .ok (.ifCond .lt 12, 3) := by decide +kernel
theorem d_K_extent_13 : decode b_K_extent 13 = .ok (.iload_n 2, 1) := by decide +kernel
theorem d_K_extent_14 : decode b_K_extent 14 = .ok (.iconst 3, 1) := by decide +kernel
theorem d_K_extent_15 : decode b_K_extent 15 = .ok (.if_icmp .gt 7, 3) := by decide +kernel
theorem d_K_extent_18 : decode b_K_extent 18 = .ok (.iconst 0, 1) := by decide +kernel
theorem d_K_extent_19 : decode b_K_extent 19 = .ok (.goto 4, 3) := by decide +kernel
theorem d_K_extent_22 : decode b_K_extent 22 = .ok (.iconst 1, 1) := by decide +kernel
theorem d_K_extent_23 : decode b_K_extent 23 = .ok (.putfield 47, 3) := by decide +kernel
theorem d_K_extent_26 : decode b_K_extent 26 = .ok (.aload_n 0, 1) := by decide +kernel
theorem d_K_extent_27 : decode b_K_extent 27 = .ok (.getfield 47, 3) := by decide +kernel
theorem d_K_extent_30 : decode b_K_extent 30 = .ok (.ifCond .le 5, 3) := by decide +kernel
theorem d_K_extent_33 : decode b_K_extent 33 = .ok (.iconst 0, 1) := by decide +kernel
theorem d_K_extent_34 : decode b_K_extent 34 = .ok (.ireturn, 1) := by decide +kernel
theorem d_K_extent_35 : decode b_K_extent 35 = .ok (.iload_n 2, 1) := by decide +kernel
theorem d_K_extent_36 : decode b_K_extent 36 = .ok (.ifCond .ne 12, 3) := by decide +kernel
theorem d_K_extent_39 : decode b_K_extent 39 = .ok (.aload_n 0, 1) := by decide +kernel
theorem d_K_extent_40 : decode b_K_extent 40 = .ok (.getfield 13, 3) := by decide +kernel
theorem d_K_extent_43 : decode b_K_extent 43 = .ok (.iload_n 1, 1) := by decide +kernel
theorem d_K_extent_44 : decode b_K_extent 44 = .ok (.iaload, 1) := by decide +kernel
theorem d_K_extent_45 : decode b_K_extent 45 = .ok (.goto 37, 3) := by decide +kernel
theorem d_K_extent_48 : decode b_K_extent 48 = .ok (.iload_n 2, 1) := by decide +kernel
theorem d_K_extent_49 : decode b_K_extent 49 = .ok (.iconst 1, 1) := by decide +kernel
theorem d_K_extent_50 : decode b_K_extent 50 = .ok (.if_icmp .ne 12, 3) := by decide +kernel
theorem d_K_extent_53 : decode b_K_extent 53 = .ok (.aload_n 0, 1) := by decide +kernel
theorem d_K_extent_54 : decode b_K_extent 54 = .ok (.getfield 17, 3) := by decide +kernel
theorem d_K_extent_57 : decode b_K_extent 57 = .ok (.iload_n 1, 1) := by decide +kernel
theorem d_K_extent_58 : decode b_K_extent 58 = .ok (.iaload, 1) := by decide +kernel
theorem d_K_extent_59 : decode b_K_extent 59 = .ok (.goto 23, 3) := by decide +kernel
theorem d_K_extent_62 : decode b_K_extent 62 = .ok (.iload_n 2, 1) := by decide +kernel
theorem d_K_extent_63 : decode b_K_extent 63 = .ok (.iconst 2, 1) := by decide +kernel
