theorem d_K_extent_64 : decode b_K_extent 64 = .ok (.if_icmp .ne 12, 3) := by decide +kernel
theorem d_K_extent_67 : decode b_K_extent 67 = .ok (.aload_n 0, 1) := by decide +kernel
theorem d_K_extent_68 : decode b_K_extent 68 = .ok (.getfield 20, 3) := by decide +kernel
theorem d_K_extent_71 : decode b_K_extent 71 = .ok (.iload_n 1, 1) := by decide +kernel
theorem d_K_extent_72 : decode b_K_extent 72 = .ok (.iaload, 1) := by decide +kernel
theorem d_K_extent_73 : decode b_K_extent 73 = .ok (.goto 9, 3) := by decide +kernel
theorem d_K_extent_76 : decode b_K_extent 76 = .ok (.aload_n 0, 1) := by decide +kernel
theorem d_K_extent_77 : decode b_K_extent 77 = .ok (.getfield 23, 3) := by decide +kernel
theorem d_K_extent_80 : decode b_K_extent 80 = .ok (.iload_n 1, 1) := by decide +kernel
theorem d_K_extent_81 : decode b_K_extent 81 = .ok (.iaload, 1) := by decide +kernel
theorem d_K_extent_82 : decode b_K_extent 82 = .ok (.ireturn, 1) := by decide +kernel
theorem d_K_byteAt_0 : decode b_K_byteAt 0 = .ok (.aload_n 0, 1) := by decide +kernel
theorem d_K_byteAt_1 : decode b_K_byteAt 1 = .ok (.aload_n 0, 1) := by decide +kernel
theorem d_K_byteAt_2 : decode b_K_byteAt 2 = .ok (.iload_n 1, 1) := by decide +kernel
theorem d_K_byteAt_3 : decode b_K_byteAt 3 = .ok (.invokevirtual 85, 3) := by decide +kernel
theorem d_K_byteAt_6 : decode b_K_byteAt 6 = .ok (.ifCond .eq 21, 3) := by decide +kernel
theorem d_K_byteAt_9 : decode b_K_byteAt 9 = .ok (.iload_n 2, 1) := by decide +kernel
theorem d_K_byteAt_10 : decode b_K_byteAt 10 = .ok (.ifCond .lt 17, 3) := by decide +kernel
theorem d_K_byteAt_13 : decode b_K_byteAt 13 = .ok (.iload_n 2, 1) := by decide +kernel
theorem d_K_byteAt_14 : decode b_K_byteAt 14 = .ok (.aload_n 0, 1) := by decide +kernel
theorem d_K_byteAt_15 : decode b_K_byteAt 15 = .ok (.getfield 23, 3) := by decide +kernel
theorem d_K_byteAt_18 : decode b_K_byteAt 18 = .ok (.iload_n 1, 1) := by decide +kernel
theorem d_K_byteAt_19 : decode b_K_byteAt 19 = .ok (.iaload, 1) := by decide +kernel
theorem d_K_byteAt_20 : decode b_K_byteAt 20 = .ok (.if_icmp .ge 7, 3) := by decide +kernel
theorem d_K_byteAt_23 : decode b_K_byteAt 23 = .ok (.iconst 0, 1) := by decide +kernel
theorem d_K_byteAt_24 : decode b_K_byteAt 24 = .ok (.goto 4, 3) := by decide +kernel
theorem d_K_byteAt_27 : decode b_K_byteAt 27 = .ok (.iconst 1, 1) := by decide +kernel
theorem d_K_byteAt_28 : decode b_K_byteAt 28 = .ok (.putfield 47, 3) := by decide +kernel
theorem d_K_byteAt_31 : decode b_K_byteAt 31 = .ok (.aload_n 0, 1) := by decide +kernel
theorem d_K_byteAt_32 : decode b_K_byteAt 32 = .ok (.getfield 47, 3) := by decide +kernel
theorem d_K_byteAt_35 : decode b_K_byteAt 35 = .ok (.ifCond .le 7, 3) := by decide +kernel
theorem d_K_byteAt_38 : decode b_K_byteAt 38 = .ok (.iconst 0, 1) := by decide +kernel
theorem d_K_byteAt_39 : decode b_K_byteAt 39 = .ok (.goto 24, 3) := by decide +kernel
theorem d_K_byteAt_42 : decode b_K_byteAt 42 = .ok (.aload_n 0, 1) := by decide +kernel
theorem d_K_byteAt_43 : decode b_K_byteAt 43 = .ok (.getfield 30, 3) := by decide +kernel
theorem d_K_byteAt_46 : decode b_K_byteAt 46 = .ok (.sipush 4096, 3) := by decide +kernel
theorem d_K_byteAt_49 : decode b_K_byteAt 49 = .ok (.aload_n 0, 1) := by decide +kernel
theorem d_K_byteAt_50 : decode b_K_byteAt 50 = .ok (.getfield 17, 3) := by decide +kernel
theorem d_K_byteAt_53 : decode b_K_byteAt 53 = .ok (.iload_n 1, 1) := by decide +kernel
theorem d_K_byteAt_54 : decode b_K_byteAt 54 = .ok (.iaload, 1) := by decide +kernel
theorem d_K_byteAt_55 : decode b_K_byteAt 55 = .ok (.imul, 1) := by decide +kernel
theorem d_K_byteAt_56 : decode b_K_byteAt 56 = .ok (.iload_n 2, 1) := by decide +kernel
theorem d_K_byteAt_57 : decode b_K_byteAt 57 = .ok (.iadd, 1) := by decide +kernel
theorem d_K_byteAt_58 : decode b_K_byteAt 58 = .ok (.baload, 1) := by decide +kernel
theorem d_K_byteAt_59 : decode b_K_byteAt 59 = .ok (.sipush 255, 3) := by decide +kernel
theorem d_K_byteAt_62 : decode b_K_byteAt 62 = .ok (.iand, 1) := by decide +kernel
theorem d_K_byteAt_63 : decode b_K_byteAt 63 = .ok (.ireturn, 1) := by decide +kernel
theorem d_K_crash_0 : decode b_K_crash 0 = .ok (.aload_n 0, 1) := by decide +kernel
theorem d_K_crash_1 : decode b_K_crash 1 = .ok (.iload_n 1, 1) := by decide +kernel
theorem d_K_crash_2 : decode b_K_crash 2 = .ok (.iconst (-1), 1) := by decide +kernel
theorem d_K_crash_3 : decode b_K_crash 3 = .ok (.if_icmp .lt 10, 3) := by decide +kernel
theorem d_K_crash_6 : decode b_K_crash 6 = .ok (.iload_n 1, 1) := by decide +kernel
theorem d_K_crash_7 : decode b_K_crash 7 = .ok (.sipush 1000, 3) := by decide +kernel
theorem d_K_crash_10 : decode b_K_crash 10 = .ok (.if_icmp .le 7, 3) := by decide +kernel
theorem d_K_crash_13 : decode b_K_crash 13 = .ok (.iconst 1, 1) := by decide +kernel
theorem d_K_crash_14 : decode b_K_crash 14 = .ok (.goto 15, 3) := by decide +kernel
theorem d_K_crash_17 : decode b_K_crash 17 = .ok (.aload_n 0, 1) := by decide +kernel
theorem d_K_crash_18 : decode b_K_crash 18 = .ok (.getfield 50, 3) := by decide +kernel
theorem d_K_crash_21 : decode b_K_crash 21 = .ok (.ifCond .eq 7, 3) := by decide +kernel
theorem d_K_crash_24 : decode b_K_crash 24 = .ok (.iconst 2, 1) := by decide +kernel
theorem d_K_crash_25 : decode b_K_crash 25 = .ok (.goto 4, 3) := by decide +kernel
theorem d_K_crash_28 : decode b_K_crash 28 = .ok (.iconst 0, 1) := by decide +kernel
theorem d_K_crash_29 : decode b_K_crash 29 = .ok (.putfield 47, 3) := by decide +kernel
theorem d_K_crash_32 : decode b_K_crash 32 = .ok (.aload_n 0, 1) := by decide +kernel
theorem d_K_crash_33 : decode b_K_crash 33 = .ok (.getfield 47, 3) := by decide +kernel
theorem d_K_crash_36 : decode b_K_crash 36 = .ok (.ifCond .ne 16, 3) := by decide +kernel
theorem d_K_crash_39 : decode b_K_crash 39 = .ok (.aload_n 0, 1) := by decide +kernel
theorem d_K_crash_40 : decode b_K_crash 40 = .ok (.iload_n 1, 1) := by decide +kernel
theorem d_K_crash_41 : decode b_K_crash 41 = .ok (.putfield 7, 3) := by decide +kernel
theorem d_K_crash_44 : decode b_K_crash 44 = .ok (.iload_n 1, 1) := by decide +kernel
theorem d_K_crash_45 : decode b_K_crash 45 = .ok (.ifCond .ne 7, 3) := by decide +kernel
theorem d_K_crash_48 : decode b_K_crash 48 = .ok (.aload_n 0, 1) := by decide +kernel
theorem d_K_crash_49 : decode b_K_crash 49 = .ok (.invokevirtual 82, 3) := by decide +kernel
theorem d_K_crash_52 : decode b_K_crash 52 = .ok (.return_, 1) := by decide +kernel
theorem d_K_recover_0 : decode b_K_recover 0 = .ok (.aload_n 0, 1) := by decide +kernel
theorem d_K_recover_1 : decode b_K_recover 1 = .ok (.iconst 0, 1) := by decide +kernel
theorem d_K_recover_2 : decode b_K_recover 2 = .ok (.putfield 47, 3) := by decide +kernel
theorem d_K_recover_5 : decode b_K_recover 5 = .ok (.aload_n 0, 1) := by decide +kernel
theorem d_K_recover_6 : decode b_K_recover 6 = .ok (.iconst 0, 1) := by decide +kernel
theorem d_K_recover_7 : decode b_K_recover 7 = .ok (.putfield 50, 3) := by decide +kernel
theorem d_K_recover_10 : decode b_K_recover 10 = .ok (.aload_n 0, 1) := by decide +kernel
theorem d_K_recover_11 : decode b_K_recover 11 = .ok (.iconst (-1), 1) := by decide +kernel
theorem d_K_recover_12 : decode b_K_recover 12 = .ok (.putfield 7, 3) := by decide +kernel
theorem d_K_recover_15 : decode b_K_recover 15 = .ok (.aload_n 0, 1) := by decide +kernel
theorem d_K_recover_16 : decode b_K_recover 16 = .ok (.iconst 0, 1) := by decide +kernel
theorem d_K_recover_17 : decode b_K_recover 17 = .ok (.putfield 54, 3) := by decide +kernel
theorem d_K_recover_20 : decode b_K_recover 20 = .ok (.iconst 0, 1) := by decide +kernel
theorem d_K_recover_21 : decode b_K_recover 21 = .ok (.istore_n 1, 1) := by decide +kernel
theorem d_K_recover_22 : decode b_K_recover 22 = .ok (.iload_n 1, 1) := by decide +kernel
theorem d_K_recover_23 : decode b_K_recover 23 = .ok (.bipush 24, 2) := by decide +kernel
theorem d_K_recover_25 : decode b_K_recover 25 = .ok (.if_icmp .ge 21, 3) := by decide +kernel
theorem d_K_recover_28 : decode b_K_recover 28 = .ok (.aload_n 0, 1) := by decide +kernel
theorem d_K_recover_29 : decode b_K_recover 29 = .ok (.getfield 38, 3) := by decide +kernel
theorem d_K_recover_32 : decode b_K_recover 32 = .ok (.iload_n 1, 1) := by decide +kernel
theorem d_K_recover_33 : decode b_K_recover 33 = .ok (.aload_n 0, 1) := by decide +kernel
theorem d_K_recover_34 : decode b_K_recover 34 = .ok (.getfield 26, 3) := by decide +kernel
theorem d_K_recover_37 : decode b_K_recover 37 = .ok (.iload_n 1, 1) := by decide +kernel
theorem d_K_recover_38 : decode b_K_recover 38 = .ok (.iaload, 1) := by decide +kernel
theorem d_K_recover_39 : decode b_K_recover 39 = .ok (.iastore, 1) := by decide +kernel
theorem d_K_recover_40 : decode b_K_recover 40 = .ok (.iinc 1 1, 3) := by decide +kernel
theorem d_K_recover_43 : decode b_K_recover 43 = .ok (.goto (-21), 3) := by decide +kernel
theorem d_K_recover_46 : decode b_K_recover 46 = .ok (.aload_n 0, 1) := by decide +kernel
theorem d_K_recover_47 : decode b_K_recover 47 = .ok (.getfield 58, 3) := by decide +kernel
theorem d_K_recover_50 : decode b_K_recover 50 = .ok (.ireturn, 1) := by decide +kernel
theorem d_K_count_0 : decode b_K_count 0 = .ok (.aload_n 0, 1) := by decide +kernel
theorem d_K_count_1 : decode b_K_count 1 = .ok (.iload_n 1, 1) := by decide +kernel
theorem d_K_count_2 : decode b_K_count 2 = .ok (.ifCond .lt 8, 3) := by decide +kernel
theorem d_K_count_5 : decode b_K_count 5 = .ok (.iload_n 1, 1) := by decide +kernel
theorem d_K_count_6 : decode b_K_count 6 = .ok (.iconst 3, 1) := by decide +kernel
theorem d_K_count_7 : decode b_K_count 7 = .ok (.if_icmp .le 7, 3) := by decide +kernel
theorem d_K_count_10 : decode b_K_count 10 = .ok (.iconst 1, 1) := by decide +kernel
theorem d_K_count_11 : decode b_K_count 11 = .ok (.goto 15, 3) := by decide +kernel
theorem d_K_count_14 : decode b_K_count 14 = .ok (.aload_n 0, 1) := by decide +kernel
theorem d_K_count_15 : decode b_K_count 15 = .ok (.getfield 50, 3) := by decide +kernel
theorem d_K_count_18 : decode b_K_count 18 = .ok (.ifCond .eq 7, 3) := by decide +kernel
theorem d_K_count_21 : decode b_K_count 21 = .ok (.iconst 2, 1) := by decide +kernel
theorem d_K_count_22 : decode b_K_count 22 = .ok (.goto 4, 3) := by decide +kernel
theorem d_K_count_25 : decode b_K_count 25 = .ok (.iconst 0, 1) := by decide +kernel
theorem d_K_count_26 : decode b_K_count 26 = .ok (.putfield 47, 3) := by decide +kernel
theorem d_K_count_29 : decode b_K_count 29 = .ok (.aload_n 0, 1) := by decide +kernel
theorem d_K_count_30 : decode b_K_count 30 = .ok (.getfield 47, 3) := by decide +kernel
theorem d_K_count_33 : decode b_K_count 33 = .ok (.ifCond .le 5, 3) := by decide +kernel
theorem d_K_count_36 : decode b_K_count 36 = .ok (.iconst 0, 1) := by decide +kernel
theorem d_K_count_37 : decode b_K_count 37 = .ok (.ireturn, 1) := by decide +kernel
theorem d_K_count_38 : decode b_K_count 38 = .ok (.iload_n 1, 1) := by decide +kernel
theorem d_K_count_39 : decode b_K_count 39 = .ok (.iconst 1, 1) := by decide +kernel
theorem d_K_count_40 : decode b_K_count 40 = .ok (.if_icmp .ne 44, 3) := by decide +kernel
theorem d_K_count_43 : decode b_K_count 43 = .ok (.aload_n 0, 1) := by decide +kernel
theorem d_K_count_44 : decode b_K_count 44 = .ok (.invokevirtual 61, 3) := by decide +kernel
theorem d_K_count_47 : decode b_K_count 47 = .ok (.iconst 0, 1) := by decide +kernel
theorem d_K_count_48 : decode b_K_count 48 = .ok (.istore_n 2, 1) := by decide +kernel
theorem d_K_count_49 : decode b_K_count 49 = .ok (.iconst 0, 1) := by decide +kernel
theorem d_K_count_50 : decode b_K_count 50 = .ok (.istore_n 3, 1) := by decide +kernel
theorem d_K_count_51 : decode b_K_count 51 = .ok (.iload_n 3, 1) := by decide +kernel
theorem d_K_count_52 : decode b_K_count 52 = .ok (.aload_n 0, 1) := by decide +kernel
theorem d_K_count_53 : decode b_K_count 53 = .ok (.getfield 44, 3) := by decide +kernel
theorem d_K_count_56 : decode b_K_count 56 = .ok (.if_icmp .ge 26, 3) := by decide +kernel
theorem d_K_count_59 : decode b_K_count 59 = .ok (.iload_n 2, 1) := by decide +kernel
theorem d_K_count_60 : decode b_K_count 60 = .ok (.aload_n 0, 1) := by decide +kernel
theorem d_K_count_61 : decode b_K_count 61 = .ok (.getfield 34, 3) := by decide +kernel
theorem d_K_count_64 : decode b_K_count 64 = .ok (.iload_n 3, 1) := by decide +kernel
theorem d_K_count_65 : decode b_K_count 65 = .ok (.baload, 1) := by decide +kernel
theorem d_K_count_66 : decode b_K_count 66 = .ok (.ifCond .eq 7, 3) := by decide +kernel
theorem d_K_count_69 : decode b_K_count 69 = .ok (.iconst 0, 1) := by decide +kernel
theorem d_K_count_70 : decode b_K_count 70 = .ok (.goto 4, 3) := by decide +kernel
theorem d_K_count_73 : decode b_K_count 73 = .ok (.iconst 1, 1) := by decide +kernel
theorem d_K_count_74 : decode b_K_count 74 = .ok (.iadd, 1) := by decide +kernel
theorem d_K_count_75 : decode b_K_count 75 = .ok (.istore_n 2, 1) := by decide +kernel
theorem d_K_count_76 : decode b_K_count 76 = .ok (.iinc 3 1, 3) := by decide +kernel
theorem d_K_count_79 : decode b_K_count 79 = .ok (.goto (-28), 3) := by decide +kernel
theorem d_K_count_82 : decode b_K_count 82 = .ok (.iload_n 2, 1) := by decide +kernel
theorem d_K_count_83 : decode b_K_count 83 = .ok (.ireturn, 1) := by decide +kernel
theorem d_K_count_84 : decode b_K_count 84 = .ok (.iload_n 1, 1) := by decide +kernel
theorem d_K_count_85 : decode b_K_count 85 = .ok (.ifCond .ne 10, 3) := by decide +kernel
theorem d_K_count_88 : decode b_K_count 88 = .ok (.aload_n 0, 1) := by decide +kernel
theorem d_K_count_89 : decode b_K_count 89 = .ok (.getfield 58, 3) := by decide +kernel
theorem d_K_count_92 : decode b_K_count 92 = .ok (.goto 19, 3) := by decide +kernel
theorem d_K_count_95 : decode b_K_count 95 = .ok (.iload_n 1, 1) := by decide +kernel
theorem d_K_count_96 : decode b_K_count 96 = .ok (.iconst 2, 1) := by decide +kernel
theorem d_K_count_97 : decode b_K_count 97 = .ok (.if_icmp .ne 10, 3) := by decide +kernel
theorem d_K_count_100 : decode b_K_count 100 = .ok (.aload_n 0, 1) := by decide +kernel
theorem d_K_count_101 : decode b_K_count 101 = .ok (.getfield 54, 3) := by decide +kernel
theorem d_K_count_104 : decode b_K_count 104 = .ok (.goto 7, 3) := by decide +kernel
theorem d_K_count_107 : decode b_K_count 107 = .ok (.aload_n 0, 1) := by decide +kernel
theorem d_K_count_108 : decode b_K_count 108 = .ok (.getfield 68, 3) := by decide +kernel
theorem d_K_count_111 : decode b_K_count 111 = .ok (.ireturn, 1) := by decide +kernel
theorem d_K_doubled_0 : decode b_K_doubled 0 = .ok (.aload_n 0, 1) := by decide +kernel
theorem d_K_doubled_1 : decode b_K_doubled 1 = .ok (.aload_n 0, 1) := by decide +kernel
theorem d_K_doubled_2 : decode b_K_doubled 2 = .ok (.getfield 50, 3) := by decide +kernel
theorem d_K_doubled_5 : decode b_K_doubled 5 = .ok (.ifCond .eq 7, 3) := by decide +kernel
theorem d_K_doubled_8 : decode b_K_doubled 8 = .ok (.iconst 1, 1) := by decide +kernel
theorem d_K_doubled_9 : decode b_K_doubled 9 = .ok (.goto 4, 3) := by decide +kernel
theorem d_K_doubled_12 : decode b_K_doubled 12 = .ok (.iconst 0, 1) := by decide +kernel
theorem d_K_doubled_13 : decode b_K_doubled 13 = .ok (.putfield 47, 3) := by decide +kernel
theorem d_K_doubled_16 : decode b_K_doubled 16 = .ok (.aload_n 0, 1) := by decide +kernel
theorem d_K_doubled_17 : decode b_K_doubled 17 = .ok (.getfield 47, 3) := by decide +kernel
theorem d_K_doubled_20 : decode b_K_doubled 20 = .ok (.ifCond .le 5, 3) := by decide +kernel
theorem d_K_doubled_23 : decode b_K_doubled 23 = .ok (.iconst 0, 1) := by decide +kernel
theorem d_K_doubled_24 : decode b_K_doubled 24 = .ok (.ireturn, 1) := by decide +kernel
theorem d_K_doubled_25 : decode b_K_doubled 25 = .ok (.iconst 0, 1) := by decide +kernel
theorem d_K_doubled_26 : decode b_K_doubled 26 = .ok (.istore_n 1, 1) := by decide +kernel
theorem d_K_doubled_27 : decode b_K_doubled 27 = .ok (.iconst 2, 1) := by decide +kernel
theorem d_K_doubled_28 : decode b_K_doubled 28 = .ok (.istore_n 2, 1) := by decide +kernel
theorem d_K_doubled_29 : decode b_K_doubled 29 = .ok (.aload_n 0, 1) := by decide +kernel
theorem d_K_doubled_30 : decode b_K_doubled 30 = .ok (.invokevirtual 61, 3) := by decide +kernel
theorem d_K_doubled_33 : decode b_K_doubled 33 = .ok (.iconst 0, 1) := by decide +kernel
theorem d_K_doubled_34 : decode b_K_doubled 34 = .ok (.istore_n 3, 1) := by decide +kernel
theorem d_K_doubled_35 : decode b_K_doubled 35 = .ok (.iload_n 3, 1) := by decide +kernel
theorem d_K_doubled_36 : decode b_K_doubled 36 = .ok (.aload_n 0, 1) := by decide +kernel
theorem d_K_doubled_37 : decode b_K_doubled 37 = .ok (.getfield 58, 3) := by decide +kernel
theorem d_K_doubled_40 : decode b_K_doubled 40 = .ok (.if_icmp .ge 18, 3) := by decide +kernel
theorem d_K_doubled_43 : decode b_K_doubled 43 = .ok (.iload_n 1, 1) := by decide +kernel
theorem d_K_doubled_44 : decode b_K_doubled 44 = .ok (.aload_n 0, 1) := by decide +kernel
theorem d_K_doubled_45 : decode b_K_doubled 45 = .ok (.getfield 20, 3) := by decide +kernel
theorem d_K_doubled_48 : decode b_K_doubled 48 = .ok (.iload_n 3, 1) := by decide +kernel
theorem d_K_doubled_49 : decode b_K_doubled 49 = .ok (.iaload, 1) := by decide +kernel
theorem d_K_doubled_50 : decode b_K_doubled 50 = .ok (.iadd, 1) := by decide +kernel
theorem d_K_doubled_51 : decode b_K_doubled 51 = .ok (.istore_n 1, 1) := by decide +kernel
theorem d_K_doubled_52 : decode b_K_doubled 52 = .ok (.iinc 3 1, 3) := by decide +kernel
theorem d_K_doubled_55 : decode b_K_doubled 55 = .ok (.goto (-20), 3) := by decide +kernel
theorem d_K_doubled_58 : decode b_K_doubled 58 = .ok (.iconst 2, 1) := by decide +kernel
theorem d_K_doubled_59 : decode b_K_doubled 59 = .ok (.istore_n 3, 1) := by decide +kernel
theorem d_K_doubled_60 : decode b_K_doubled 60 = .ok (.iload_n 3, 1) := by decide +kernel
theorem d_K_doubled_61 : decode b_K_doubled 61 = .ok (.aload_n 0, 1) := by decide +kernel
theorem d_K_doubled_62 : decode b_K_doubled 62 = .ok (.getfield 44, 3) := by decide +kernel
theorem d_K_doubled_65 : decode b_K_doubled 65 = .ok (.if_icmp .ge 26, 3) := by decide +kernel
theorem d_K_doubled_68 : decode b_K_doubled 68 = .ok (.iload_n 2, 1) := by decide +kernel
theorem d_K_doubled_69 : decode b_K_doubled 69 = .ok (.aload_n 0, 1) := by decide +kernel
theorem d_K_doubled_70 : decode b_K_doubled 70 = .ok (.getfield 34, 3) := by decide +kernel
theorem d_K_doubled_73 : decode b_K_doubled 73 = .ok (.iload_n 3, 1) := by decide +kernel
theorem d_K_doubled_74 : decode b_K_doubled 74 = .ok (.baload, 1) := by decide +kernel
theorem d_K_doubled_75 : decode b_K_doubled 75 = .ok (.ifCond .eq 7, 3) := by decide +kernel
theorem d_K_doubled_78 : decode b_K_doubled 78 = .ok (.iconst 1, 1) := by decide +kernel
theorem d_K_doubled_79 : decode b_K_doubled 79 = .ok (.goto 4, 3) := by decide +kernel
theorem d_K_doubled_82 : decode b_K_doubled 82 = .ok (.iconst 0, 1) := by decide +kernel
theorem d_K_doubled_83 : decode b_K_doubled 83 = .ok (.iadd, 1) := by decide +kernel
theorem d_K_doubled_84 : decode b_K_doubled 84 = .ok (.istore_n 2, 1) := by decide +kernel
theorem d_K_doubled_85 : decode b_K_doubled 85 = .ok (.iinc 3 1, 3) := by decide +kernel
theorem d_K_doubled_88 : decode b_K_doubled 88 = .ok (.goto (-28), 3) := by decide +kernel
theorem d_K_doubled_91 : decode b_K_doubled 91 = .ok (.iload_n 1, 1) := by decide +kernel
theorem d_K_doubled_92 : decode b_K_doubled 92 = .ok (.iload_n 2, 1) := by decide +kernel
theorem d_K_doubled_93 : decode b_K_doubled 93 = .ok (.isub, 1) := by decide +kernel
theorem d_K_doubled_94 : decode b_K_doubled 94 = .ok (.iconst 2, 1) := by decide +kernel
theorem d_K_doubled_95 : decode b_K_doubled 95 = .ok (.iadd, 1) := by decide +kernel
theorem d_K_doubled_96 : decode b_K_doubled 96 = .ok (.ireturn, 1) := by decide +kernel
theorem d_K_change_0 : decode b_K_change 0 = .ok (.aload_n 0, 1) := by decide +kernel
theorem d_K_change_1 : decode b_K_change 1 = .ok (.aload_n 0, 1) := by decide +kernel
theorem d_K_change_2 : decode b_K_change 2 = .ok (.getfield 50, 3) := by decide +kernel
theorem d_K_change_5 : decode b_K_change 5 = .ok (.ifCond .eq 7, 3) := by decide +kernel
theorem d_K_change_8 : decode b_K_change 8 = .ok (.iconst 1, 1) := by decide +kernel
theorem d_K_change_9 : decode b_K_change 9 = .ok (.goto 4, 3) := by decide +kernel
theorem d_K_change_12 : decode b_K_change 12 = .ok (.iconst 0, 1) := by decide +kernel
theorem d_K_change_13 : decode b_K_change 13 = .ok (.putfield 47, 3) := by decide +kernel
theorem d_K_change_16 : decode b_K_change 16 = .ok (.aload_n 0, 1) := by decide +kernel
theorem d_K_change_17 : decode b_K_change 17 = .ok (.getfield 47, 3) := by decide +kernel
theorem d_K_change_20 : decode b_K_change 20 = .ok (.ifCond .le 5, 3) := by decide +kernel
theorem d_K_change_23 : decode b_K_change 23 = .ok (.iconst 0, 1) := by decide +kernel
theorem d_K_change_24 : decode b_K_change 24 = .ok (.ireturn, 1) := by decide +kernel
theorem d_K_change_25 : decode b_K_change 25 = .ok (.aload_n 0, 1) := by decide +kernel
theorem d_K_change_26 : decode b_K_change 26 = .ok (.getfield 54, 3) := by decide +kernel
theorem d_K_change_29 : decode b_K_change 29 = .ok (.sipush 4096, 3) := by decide +kernel
theorem d_K_change_32 : decode b_K_change 32 = .ok (.iadd, 1) := by decide +kernel
theorem d_K_change_33 : decode b_K_change 33 = .ok (.iconst 1, 1) := by decide +kernel
theorem d_K_change_34 : decode b_K_change 34 = .ok (.isub, 1) := by decide +kernel
theorem d_K_change_35 : decode b_K_change 35 = .ok (.sipush 4096, 3) := by decide +kernel
theorem d_K_change_38 : decode b_K_change 38 = .ok (.idiv, 1) := by decide +kernel
theorem d_K_change_39 : decode b_K_change 39 = .ok (.istore 4, 2) := by decide +kernel
theorem d_K_change_41 : decode b_K_change 41 = .ok (.iconst 0, 1) := by decide +kernel
theorem d_K_change_42 : decode b_K_change 42 = .ok (.istore 5, 2) := by decide +kernel
theorem d_K_change_44 : decode b_K_change 44 = .ok (.iconst 0, 1) := by decide +kernel
theorem d_K_change_45 : decode b_K_change 45 = .ok (.istore 6, 2) := by decide +kernel
theorem d_K_change_47 : decode b_K_change 47 = .ok (.iload 6, 2) := by decide +kernel
theorem d_K_change_49 : decode b_K_change 49 = .ok (.aload_n 0, 1) := by decide +kernel
theorem d_K_change_50 : decode b_K_change 50 = .ok (.getfield 58, 3) := by decide +kernel
theorem d_K_change_53 : decode b_K_change 53 = .ok (.if_icmp .ge 30, 3) := by decide +kernel
theorem d_K_change_56 : decode b_K_change 56 = .ok (.iload 5, 2) := by decide +kernel
theorem d_K_change_58 : decode b_K_change 58 = .ok (.aload_n 0, 1) := by decide +kernel
theorem d_K_change_59 : decode b_K_change 59 = .ok (.iload 6, 2) := by decide +kernel
theorem d_K_change_61 : decode b_K_change 61 = .ok (.iload_n 2, 1) := by decide +kernel
theorem d_K_change_62 : decode b_K_change 62 = .ok (.iload_n 3, 1) := by decide +kernel
theorem d_K_change_63 : decode b_K_change 63 = .ok (.invokevirtual 64, 3) := by decide +kernel
theorem d_K_change_66 : decode b_K_change 66 = .ok (.ifCond .eq 7, 3) := by decide +kernel
theorem d_K_change_69 : decode b_K_change 69 = .ok (.iconst 0, 1) := by decide +kernel
theorem d_K_change_70 : decode b_K_change 70 = .ok (.goto 4, 3) := by decide +kernel
theorem d_K_change_73 : decode b_K_change 73 = .ok (.iconst 1, 1) := by decide +kernel
theorem d_K_change_74 : decode b_K_change 74 = .ok (.iadd, 1) := by decide +kernel
theorem d_K_change_75 : decode b_K_change 75 = .ok (.istore 5, 2) := by decide +kernel
theorem d_K_change_77 : decode b_K_change 77 = .ok (.iinc 6 1, 3) := by decide +kernel
theorem d_K_change_80 : decode b_K_change 80 = .ok (.goto (-33), 3) := by decide +kernel
theorem d_K_change_83 : decode b_K_change 83 = .ok (.iload 4, 2) := by decide +kernel
theorem d_K_change_85 : decode b_K_change 85 = .ok (.ifCond .ne 7, 3) := by decide +kernel
theorem d_K_change_88 : decode b_K_change 88 = .ok (.iconst 2, 1) := by decide +kernel
theorem d_K_change_89 : decode b_K_change 89 = .ok (.goto 9, 3) := by decide +kernel
theorem d_K_change_92 : decode b_K_change 92 = .ok (.aload_n 0, 1) := by decide +kernel
theorem d_K_change_93 : decode b_K_change 93 = .ok (.iload 4, 2) := by decide +kernel
theorem d_K_change_95 : decode b_K_change 95 = .ok (.invokevirtual 71, 3) := by decide +kernel
theorem d_K_change_98 : decode b_K_change 98 = .ok (.istore 6, 2) := by decide +kernel
theorem d_K_change_100 : decode b_K_change 100 = .ok (.iload 6, 2) := by decide +kernel
theorem d_K_change_102 : decode b_K_change 102 = .ok (.ifCond .lt 18, 3) := by decide +kernel
theorem d_K_change_105 : decode b_K_change 105 = .ok (.iload 4, 2) := by decide +kernel
theorem d_K_change_107 : decode b_K_change 107 = .ok (.ifCond .le 16, 3) := by decide +kernel
theorem d_K_change_110 : decode b_K_change 110 = .ok (.iload 5, 2) := by decide +kernel
theorem d_K_change_112 : decode b_K_change 112 = .ok (.iconst 1, 1) := by decide +kernel
theorem d_K_change_113 : decode b_K_change 113 = .ok (.iadd, 1) := by decide +kernel
theorem d_K_change_114 : decode b_K_change 114 = .ok (.sipush 200, 3) := by decide +kernel
theorem d_K_change_117 : decode b_K_change 117 = .ok (.if_icmp .le 6, 3) := by decide +kernel
theorem d_K_change_120 : decode b_K_change 120 = .ok (.bipush (-2), 2) := by decide +kernel
theorem d_K_change_122 : decode b_K_change 122 = .ok (.ireturn, 1) := by decide +kernel
theorem d_K_change_123 : decode b_K_change 123 = .ok (.aload_n 0, 1) := by decide +kernel
theorem d_K_change_124 : decode b_K_change 124 = .ok (.getfield 7, 3) := by decide +kernel
theorem d_K_change_127 : decode b_K_change 127 = .ok (.ifCond .lt 18, 3) := by decide +kernel
theorem d_K_change_130 : decode b_K_change 130 = .ok (.aload_n 0, 1) := by decide +kernel
theorem d_K_change_131 : decode b_K_change 131 = .ok (.getfield 7, 3) := by decide +kernel
theorem d_K_change_134 : decode b_K_change 134 = .ok (.iload 4, 2) := by decide +kernel
theorem d_K_change_136 : decode b_K_change 136 = .ok (.iconst 1, 1) := by decide +kernel
theorem d_K_change_137 : decode b_K_change 137 = .ok (.iadd, 1) := by decide +kernel
theorem d_K_change_138 : decode b_K_change 138 = .ok (.if_icmp .gt 7, 3) := by decide +kernel
theorem d_K_change_141 : decode b_K_change 141 = .ok (.iconst 1, 1) := by decide +kernel
theorem d_K_change_142 : decode b_K_change 142 = .ok (.goto 4, 3) := by decide +kernel
theorem d_K_change_145 : decode b_K_change 145 = .ok (.iconst 0, 1) := by decide +kernel
theorem d_K_change_146 : decode b_K_change 146 = .ok (.istore 7, 2) := by decide +kernel
theorem d_K_change_148 : decode b_K_change 148 = .ok (.iload 7, 2) := by decide +kernel
theorem d_K_change_150 : decode b_K_change 150 = .ok (.ifCond .eq 10, 3) := by decide +kernel
theorem d_K_change_153 : decode b_K_change 153 = .ok (.aload_n 0, 1) := by decide +kernel
theorem d_K_change_154 : decode b_K_change 154 = .ok (.getfield 7, 3) := by decide +kernel
theorem d_K_change_157 : decode b_K_change 157 = .ok (.goto 7, 3) := by decide +kernel
theorem d_K_change_160 : decode b_K_change 160 = .ok (.iload 4, 2) := by decide +kernel
theorem d_K_change_162 : decode b_K_change 162 = .ok (.iconst 1, 1) := by decide +kernel
theorem d_K_change_163 : decode b_K_change 163 = .ok (.iadd, 1) := by decide +kernel
theorem d_K_change_164 : decode b_K_change 164 = .ok (.istore 8, 2) := by decide +kernel
theorem d_K_change_166 : decode b_K_change 166 = .ok (.aload_n 0, 1) := by decide +kernel
theorem d_K_change_167 : decode b_K_change 167 = .ok (.dup, 1) := by decide +kernel
theorem d_K_change_168 : decode b_K_change 168 = .ok (.getfield 75, 3) := by decide +kernel
theorem d_K_change_171 : decode b_K_change 171 = .ok (.iload 8, 2) := by decide +kernel
theorem d_K_change_173 : decode b_K_change 173 = .ok (.iadd, 1) := by decide +kernel
theorem d_K_change_174 : decode b_K_change 174 = .ok (.putfield 75, 3) := by decide +kernel
theorem d_K_change_177 : decode b_K_change 177 = .ok (.aload_n 0, 1) := by decide +kernel
theorem d_K_change_178 : decode b_K_change 178 = .ok (.aload_n 0, 1) := by decide +kernel
theorem d_K_change_179 : decode b_K_change 179 = .ok (.getfield 7, 3) := by decide +kernel
theorem d_K_change_182 : decode b_K_change 182 = .ok (.ifCond .ge 7, 3) := by decide +kernel
theorem d_K_change_185 : decode b_K_change 185 = .ok (.iconst (-1), 1) := by decide +kernel
theorem d_K_change_186 : decode b_K_change 186 = .ok (.goto 10, 3) := by decide +kernel
theorem d_K_change_189 : decode b_K_change 189 = .ok (.aload_n 0, 1) := by decide +kernel
theorem d_K_change_190 : decode b_K_change 190 = .ok (.getfield 7, 3) := by decide +kernel
theorem d_K_change_193 : decode b_K_change 193 = .ok (.iload 8, 2) := by decide +kernel
theorem d_K_change_195 : decode b_K_change 195 = .ok (.isub, 1) := by decide +kernel
theorem d_K_change_196 : decode b_K_change 196 = .ok (.putfield 7, 3) := by decide +kernel
theorem d_K_change_199 : decode b_K_change 199 = .ok (.iload 8, 2) := by decide +kernel
theorem d_K_change_201 : decode b_K_change 201 = .ok (.iload 4, 2) := by decide +kernel
theorem d_K_change_203 : decode b_K_change 203 = .ok (.iconst 1, 1) := by decide +kernel
theorem d_K_change_204 : decode b_K_change 204 = .ok (.iadd, 1) := by decide +kernel
theorem d_K_change_205 : decode b_K_change 205 = .ok (.if_icmp .ne 14, 3) := by decide +kernel
theorem d_K_change_208 : decode b_K_change 208 = .ok (.aload_n 0, 1) := by decide +kernel
theorem d_K_change_209 : decode b_K_change 209 = .ok (.iload_n 1, 1) := by decide +kernel
theorem d_K_change_210 : decode b_K_change 210 = .ok (.iload_n 2, 1) := by decide +kernel
theorem d_K_change_211 : decode b_K_change 211 = .ok (.iload_n 3, 1) := by decide +kernel
theorem d_K_change_212 : decode b_K_change 212 = .ok (.iload 6, 2) := by decide +kernel
theorem d_K_change_214 : decode b_K_change 214 = .ok (.iload 4, 2) := by decide +kernel
theorem d_K_change_216 : decode b_K_change 216 = .ok (.invokevirtual 78, 3) := by decide +kernel
theorem d_K_change_219 : decode b_K_change 219 = .ok (.iload 7, 2) := by decide +kernel
theorem d_K_change_221 : decode b_K_change 221 = .ok (.ifCond .eq 10, 3) := by decide +kernel
theorem d_K_change_224 : decode b_K_change 224 = .ok (.aload_n 0, 1) := by decide +kernel
theorem d_K_change_225 : decode b_K_change 225 = .ok (.invokevirtual 82, 3) := by decide +kernel
theorem d_K_change_228 : decode b_K_change 228 = .ok (.bipush (-3), 2) := by decide +kernel
theorem d_K_change_230 : decode b_K_change 230 = .ok (.ireturn, 1) := by decide +kernel
theorem d_K_change_231 : decode b_K_change 231 = .ok (.aload_n 0, 1) := by decide +kernel
theorem d_K_change_232 : decode b_K_change 232 = .ok (.iconst 0, 1) := by decide +kernel
theorem d_K_change_233 : decode b_K_change 233 = .ok (.putfield 54, 3) := by decide +kernel
theorem d_K_change_236 : decode b_K_change 236 = .ok (.iload 4, 2) := by decide +kernel
theorem d_K_change_238 : decode b_K_change 238 = .ok (.iconst 1, 1) := by decide +kernel
theorem d_K_change_239 : decode b_K_change 239 = .ok (.iadd, 1) := by decide +kernel
theorem d_K_change_240 : decode b_K_change 240 = .ok (.ireturn, 1) := by decide +kernel
theorem d_K_init_0 : decode b_K_init 0 = .ok (.aload_n 0, 1) := by decide +kernel
theorem d_K_init_1 : decode b_K_init 1 = .ok (.invokespecial 1, 3) := by decide +kernel
theorem d_K_init_4 : decode b_K_init 4 = .ok (.aload_n 0, 1) := by decide +kernel
theorem d_K_init_5 : decode b_K_init 5 = .ok (.iconst (-1), 1) := by decide +kernel
theorem d_K_init_6 : decode b_K_init 6 = .ok (.putfield 7, 3) := by decide +kernel
theorem d_K_init_9 : decode b_K_init 9 = .ok (.aload_n 0, 1) := by decide +kernel
theorem d_K_init_10 : decode b_K_init 10 = .ok (.sipush 200, 3) := by decide +kernel
theorem d_K_init_13 : decode b_K_init 13 = .ok (.newarray .int, 2) := by decide +kernel
theorem d_K_init_15 : decode b_K_init 15 = .ok (.putfield 13, 3) := by decide +kernel
theorem d_K_init_18 : decode b_K_init 18 = .ok (.aload_n 0, 1) := by decide +kernel
theorem d_K_init_19 : decode b_K_init 19 = .ok (.sipush 200, 3) := by decide +kernel
theorem d_K_init_22 : decode b_K_init 22 = .ok (.newarray .int, 2) := by decide +kernel
theorem d_K_init_24 : decode b_K_init 24 = .ok (.putfield 17, 3) := by decide +kernel
theorem d_K_init_27 : decode b_K_init 27 = .ok (.aload_n 0, 1) := by decide +kernel
theorem d_K_init_28 : decode b_K_init 28 = .ok (.sipush 200, 3) := by decide +kernel
theorem d_K_init_31 : decode b_K_init 31 = .ok (.newarray .int, 2) := by decide +kernel
theorem d_K_init_33 : decode b_K_init 33 = .ok (.putfield 20, 3) := by decide +kernel
theorem d_K_init_36 : decode b_K_init 36 = .ok (.aload_n 0, 1) := by decide +kernel
theorem d_K_init_37 : decode b_K_init 37 = .ok (.sipush 200, 3) := by decide +kernel
theorem d_K_init_40 : decode b_K_init 40 = .ok (.newarray .int, 2) := by decide +kernel
theorem d_K_init_42 : decode b_K_init 42 = .ok (.putfield 23, 3) := by decide +kernel
theorem d_K_init_45 : decode b_K_init 45 = .ok (.aload_n 0, 1) := by decide +kernel
theorem d_K_init_46 : decode b_K_init 46 = .ok (.bipush 24, 2) := by decide +kernel
theorem d_K_init_48 : decode b_K_init 48 = .ok (.newarray .int, 2) := by decide +kernel
theorem d_K_init_50 : decode b_K_init 50 = .ok (.putfield 26, 3) := by decide +kernel
theorem d_K_init_53 : decode b_K_init 53 = .ok (.aload_n 0, 1) := by decide +kernel
theorem d_K_init_54 : decode b_K_init 54 = .ok (.ldc 29, 2) := by decide +kernel
theorem d_K_init_56 : decode b_K_init 56 = .ok (.newarray .byte, 2) := by decide +kernel
theorem d_K_init_58 : decode b_K_init 58 = .ok (.putfield 30, 3) := by decide +kernel
theorem d_K_init_61 : decode b_K_init 61 = .ok (.aload_n 0, 1) := by decide +kernel
theorem d_K_init_62 : decode b_K_init 62 = .ok (.sipush 128, 3) := by decide +kernel
theorem d_K_init_65 : decode b_K_init 65 = .ok (.newarray .boolean, 2) := by decide +kernel
theorem d_K_init_67 : decode b_K_init 67 = .ok (.putfield 34, 3) := by decide +kernel
theorem d_K_init_70 : decode b_K_init 70 = .ok (.aload_n 0, 1) := by decide +kernel
theorem d_K_init_71 : decode b_K_init 71 = .ok (.bipush 24, 2) := by decide +kernel
theorem d_K_init_73 : decode b_K_init 73 = .ok (.newarray .int, 2) := by decide +kernel
theorem d_K_init_75 : decode b_K_init 75 = .ok (.putfield 38, 3) := by decide +kernel
theorem d_K_init_78 : decode b_K_init 78 = .ok (.aload_n 0, 1) := by decide +kernel
theorem d_K_init_79 : decode b_K_init 79 = .ok (.ldc 29, 2) := by decide +kernel
theorem d_K_init_81 : decode b_K_init 81 = .ok (.newarray .byte, 2) := by decide +kernel
theorem d_K_init_83 : decode b_K_init 83 = .ok (.putfield 41, 3) := by decide +kernel
theorem d_K_init_86 : decode b_K_init 86 = .ok (.aload_n 0, 1) := by decide +kernel
theorem d_K_init_87 : decode b_K_init 87 = .ok (.iload_n 1, 1) := by decide +kernel
theorem d_K_init_88 : decode b_K_init 88 = .ok (.bipush 8, 2) := by decide +kernel
theorem d_K_init_90 : decode b_K_init 90 = .ok (.if_icmp .ge 8, 3) := by decide +kernel
theorem d_K_init_93 : decode b_K_init 93 = .ok (.bipush 8, 2) := by decide +kernel
theorem d_K_init_95 : decode b_K_init 95 = .ok (.goto 17, 3) := by decide +kernel
theorem d_K_init_98 : decode b_K_init 98 = .ok (.iload_n 1, 1) := by decide +kernel
theorem d_K_init_99 : decode b_K_init 99 = .ok (.sipush 128, 3) := by decide +kernel
theorem d_K_init_102 : decode b_K_init 102 = .ok (.if_icmp .le 9, 3) := by decide +kernel
theorem d_K_init_105 : decode b_K_init 105 = .ok (.sipush 128, 3) := by decide +kernel
theorem d_K_init_108 : decode b_K_init 108 = .ok (.goto 4, 3) := by decide +kernel
theorem d_K_init_111 : decode b_K_init 111 = .ok (.iload_n 1, 1) := by decide +kernel
theorem d_K_init_112 : decode b_K_init 112 = .ok (.putfield 44, 3) := by decide +kernel
theorem d_K_init_115 : decode b_K_init 115 = .ok (.return_, 1) := by decide +kernel
theorem d_L_cell_0 : decode b_L_cell 0 = .ok (.iload_n 1, 1) := by decide +kernel
theorem d_L_cell_1 : decode b_L_cell 1 = .ok (.aload_n 0, 1) := by decide +kernel
theorem d_L_cell_2 : decode b_L_cell 2 = .ok (.arraylength, 1) := by decide +kernel
theorem d_L_cell_3 : decode b_L_cell 3 = .ok (.if_icmp .ge 9, 3) := by decide +kernel
theorem d_L_cell_6 : decode b_L_cell 6 = .ok (.aload_n 0, 1) := by decide +kernel
theorem d_L_cell_7 : decode b_L_cell 7 = .ok (.iload_n 1, 1) := by decide +kernel
theorem d_L_cell_8 : decode b_L_cell 8 = .ok (.iaload, 1) := by decide +kernel
theorem d_L_cell_9 : decode b_L_cell 9 = .ok (.goto 4, 3) := by decide +kernel
theorem d_L_cell_12 : decode b_L_cell 12 = .ok (.iconst 0, 1) := by decide +kernel
theorem d_L_cell_13 : decode b_L_cell 13 = .ok (.ireturn, 1) := by decide +kernel
theorem d_L_put_0 : decode b_L_put 0 = .ok (.aload 4, 2) := by decide +kernel
theorem d_L_put_2 : decode b_L_put 2 = .ok (.iconst 0, 1) := by decide +kernel
theorem d_L_put_3 : decode b_L_put 3 = .ok (.aload_n 0, 1) := by decide +kernel
theorem d_L_put_4 : decode b_L_put 4 = .ok (.lload_n 1, 1) := by decide +kernel
theorem d_L_put_5 : decode b_L_put 5 = .ok (.iload_n 3, 1) := by decide +kernel
theorem d_L_put_6 : decode b_L_put 6 = .ok (.invokevirtual 7, 3) := by decide +kernel
theorem d_L_put_9 : decode b_L_put 9 = .ok (.i2l, 1) := by decide +kernel
theorem d_L_put_10 : decode b_L_put 10 = .ok (.lastore, 1) := by decide +kernel
theorem d_L_put_11 : decode b_L_put 11 = .ok (.goto 11, 3) := by decide +kernel
theorem d_L_put_14 : decode b_L_put 14 = .ok (.astore 5, 2) := by decide +kernel
theorem d_L_put_16 : decode b_L_put 16 = .ok (.iconst 1, 1) := by decide +kernel
theorem d_L_put_17 : decode b_L_put 17 = .ok (.ireturn, 1) := by decide +kernel
theorem d_L_put_18 : decode b_L_put 18 = .ok (.astore 5, 2) := by decide +kernel
theorem d_L_put_20 : decode b_L_put 20 = .ok (.iconst 2, 1) := by decide +kernel
theorem d_L_put_21 : decode b_L_put 21 = .ok (.ireturn, 1) := by decide +kernel
theorem d_L_put_22 : decode b_L_put 22 = .ok (.iconst 0, 1) := by decide +kernel
theorem d_L_put_23 : decode b_L_put 23 = .ok (.ireturn, 1) := by decide +kernel
theorem d_L_fill_0 : decode b_L_fill 0 = .ok (.aload_n 3, 1) := by decide +kernel
theorem d_L_fill_1 : decode b_L_fill 1 = .ok (.iconst 0, 1) := by decide +kernel
theorem d_L_fill_2 : decode b_L_fill 2 = .ok (.aload_n 0, 1) := by decide +kernel
theorem d_L_fill_3 : decode b_L_fill 3 = .ok (.iload_n 1, 1) := by decide +kernel
theorem d_L_fill_4 : decode b_L_fill 4 = .ok (.iload_n 2, 1) := by decide +kernel
theorem d_L_fill_5 : decode b_L_fill 5 = .ok (.invokevirtual 17, 3) := by decide +kernel
theorem d_L_fill_8 : decode b_L_fill 8 = .ok (.i2l, 1) := by decide +kernel
theorem d_L_fill_9 : decode b_L_fill 9 = .ok (.lastore, 1) := by decide +kernel
theorem d_L_fill_10 : decode b_L_fill 10 = .ok (.goto 11, 3) := by decide +kernel
theorem d_L_fill_13 : decode b_L_fill 13 = .ok (.astore 4, 2) := by decide +kernel
theorem d_L_fill_15 : decode b_L_fill 15 = .ok (.iconst 1, 1) := by decide +kernel
theorem d_L_fill_16 : decode b_L_fill 16 = .ok (.ireturn, 1) := by decide +kernel
theorem d_L_fill_17 : decode b_L_fill 17 = .ok (.astore 4, 2) := by decide +kernel
theorem d_L_fill_19 : decode b_L_fill 19 = .ok (.iconst 2, 1) := by decide +kernel
theorem d_L_fill_20 : decode b_L_fill 20 = .ok (.ireturn, 1) := by decide +kernel
theorem d_L_fill_21 : decode b_L_fill 21 = .ok (.iconst 0, 1) := by decide +kernel
theorem d_L_fill_22 : decode b_L_fill 22 = .ok (.ireturn, 1) := by decide +kernel
theorem d_L_drop_0 : decode b_L_drop 0 = .ok (.aload_n 1, 1) := by decide +kernel
theorem d_L_drop_1 : decode b_L_drop 1 = .ok (.iconst 0, 1) := by decide +kernel
theorem d_L_drop_2 : decode b_L_drop 2 = .ok (.aload_n 0, 1) := by decide +kernel
theorem d_L_drop_3 : decode b_L_drop 3 = .ok (.invokevirtual 21, 3) := by decide +kernel
theorem d_L_drop_6 : decode b_L_drop 6 = .ok (.i2l, 1) := by decide +kernel
theorem d_L_drop_7 : decode b_L_drop 7 = .ok (.lastore, 1) := by decide +kernel
theorem d_L_drop_8 : decode b_L_drop 8 = .ok (.goto 6, 3) := by decide +kernel
theorem d_L_drop_11 : decode b_L_drop 11 = .ok (.astore_n 2, 1) := by decide +kernel
theorem d_L_drop_12 : decode b_L_drop 12 = .ok (.iconst 1, 1) := by decide +kernel
theorem d_L_drop_13 : decode b_L_drop 13 = .ok (.ireturn, 1) := by decide +kernel
theorem d_L_drop_14 : decode b_L_drop 14 = .ok (.iconst 0, 1) := by decide +kernel
theorem d_L_drop_15 : decode b_L_drop 15 = .ok (.ireturn, 1) := by decide +kernel
theorem d_L_wish_0 : decode b_L_wish 0 = .ok (.aload_n 3, 1) := by decide +kernel
theorem d_L_wish_1 : decode b_L_wish 1 = .ok (.iconst 0, 1) := by decide +kernel
theorem d_L_wish_2 : decode b_L_wish 2 = .ok (.aload_n 0, 1) := by decide +kernel
theorem d_L_wish_3 : decode b_L_wish 3 = .ok (.iload_n 1, 1) := by decide +kernel
theorem d_L_wish_4 : decode b_L_wish 4 = .ok (.iload_n 2, 1) := by decide +kernel
theorem d_L_wish_5 : decode b_L_wish 5 = .ok (.invokevirtual 25, 3) := by decide +kernel
theorem d_L_wish_8 : decode b_L_wish 8 = .ok (.i2l, 1) := by decide +kernel
theorem d_L_wish_9 : decode b_L_wish 9 = .ok (.lastore, 1) := by decide +kernel
theorem d_L_wish_10 : decode b_L_wish 10 = .ok (.goto 11, 3) := by decide +kernel
theorem d_L_wish_13 : decode b_L_wish 13 = .ok (.astore 4, 2) := by decide +kernel
theorem d_L_wish_15 : decode b_L_wish 15 = .ok (.iconst 1, 1) := by decide +kernel
theorem d_L_wish_16 : decode b_L_wish 16 = .ok (.ireturn, 1) := by decide +kernel
theorem d_L_wish_17 : decode b_L_wish 17 = .ok (.astore 4, 2) := by decide +kernel
theorem d_L_wish_19 : decode b_L_wish 19 = .ok (.iconst 2, 1) := by decide +kernel
theorem d_L_wish_20 : decode b_L_wish 20 = .ok (.ireturn, 1) := by decide +kernel
theorem d_L_wish_21 : decode b_L_wish 21 = .ok (.iconst 0, 1) := by decide +kernel
theorem d_L_wish_22 : decode b_L_wish 22 = .ok (.ireturn, 1) := by decide +kernel
theorem d_L_note_0 : decode b_L_note 0 = .ok (.aload_n 2, 1) := by decide +kernel
theorem d_L_note_1 : decode b_L_note 1 = .ok (.iconst 0, 1) := by decide +kernel
theorem d_L_note_2 : decode b_L_note 2 = .ok (.aload_n 0, 1) := by decide +kernel
theorem d_L_note_3 : decode b_L_note 3 = .ok (.iload_n 1, 1) := by decide +kernel
theorem d_L_note_4 : decode b_L_note 4 = .ok (.invokevirtual 28, 3) := by decide +kernel
theorem d_L_note_7 : decode b_L_note 7 = .ok (.i2l, 1) := by decide +kernel
theorem d_L_note_8 : decode b_L_note 8 = .ok (.lastore, 1) := by decide +kernel
theorem d_L_note_9 : decode b_L_note 9 = .ok (.goto 9, 3) := by decide +kernel
theorem d_L_note_12 : decode b_L_note 12 = .ok (.astore_n 3, 1) := by decide +kernel
theorem d_L_note_13 : decode b_L_note 13 = .ok (.iconst 1, 1) := by decide +kernel
theorem d_L_note_14 : decode b_L_note 14 = .ok (.ireturn, 1) := by decide +kernel
theorem d_L_note_15 : decode b_L_note 15 = .ok (.astore_n 3, 1) := by decide +kernel
theorem d_L_note_16 : decode b_L_note 16 = .ok (.iconst 2, 1) := by decide +kernel
theorem d_L_note_17 : decode b_L_note 17 = .ok (.ireturn, 1) := by decide +kernel
theorem d_L_note_18 : decode b_L_note 18 = .ok (.iconst 0, 1) := by decide +kernel
theorem d_L_note_19 : decode b_L_note 19 = .ok (.ireturn, 1) := by decide +kernel
theorem d_L_change_0 : decode b_L_change 0 = .ok (.aload 4, 2) := by decide +kernel
theorem d_L_change_2 : decode b_L_change 2 = .ok (.iconst 0, 1) := by decide +kernel
theorem d_L_change_3 : decode b_L_change 3 = .ok (.aload_n 0, 1) := by decide +kernel
theorem d_L_change_4 : decode b_L_change 4 = .ok (.iload_n 1, 1) := by decide +kernel
theorem d_L_change_5 : decode b_L_change 5 = .ok (.iload_n 2, 1) := by decide +kernel
theorem d_L_change_6 : decode b_L_change 6 = .ok (.iload_n 3, 1) := by decide +kernel
theorem d_L_change_7 : decode b_L_change 7 = .ok (.invokevirtual 32, 3) := by decide +kernel
theorem d_L_change_10 : decode b_L_change 10 = .ok (.i2l, 1) := by decide +kernel
theorem d_L_change_11 : decode b_L_change 11 = .ok (.lastore, 1) := by decide +kernel
theorem d_L_change_12 : decode b_L_change 12 = .ok (.goto 7, 3) := by decide +kernel
theorem d_L_change_15 : decode b_L_change 15 = .ok (.astore 5, 2) := by decide +kernel
theorem d_L_change_17 : decode b_L_change 17 = .ok (.iconst 1, 1) := by decide +kernel
theorem d_L_change_18 : decode b_L_change 18 = .ok (.ireturn, 1) := by decide +kernel
theorem d_L_change_19 : decode b_L_change 19 = .ok (.iconst 0, 1) := by decide +kernel
theorem d_L_change_20 : decode b_L_change 20 = .ok (.ireturn, 1) := by decide +kernel
theorem d_L_extent_0 : decode b_L_extent 0 = .ok (.aload_n 3, 1) := by decide +kernel
theorem d_L_extent_1 : decode b_L_extent 1 = .ok (.iconst 0, 1) := by decide +kernel
theorem d_L_extent_2 : decode b_L_extent 2 = .ok (.aload_n 0, 1) := by decide +kernel
theorem d_L_extent_3 : decode b_L_extent 3 = .ok (.iload_n 1, 1) := by decide +kernel
theorem d_L_extent_4 : decode b_L_extent 4 = .ok (.iload_n 2, 1) := by decide +kernel
theorem d_L_extent_5 : decode b_L_extent 5 = .ok (.invokevirtual 36, 3) := by decide +kernel
theorem d_L_extent_8 : decode b_L_extent 8 = .ok (.i2l, 1) := by decide +kernel
theorem d_L_extent_9 : decode b_L_extent 9 = .ok (.lastore, 1) := by decide +kernel
theorem d_L_extent_10 : decode b_L_extent 10 = .ok (.goto 7, 3) := by decide +kernel
theorem d_L_extent_13 : decode b_L_extent 13 = .ok (.astore 4, 2) := by decide +kernel
theorem d_L_extent_15 : decode b_L_extent 15 = .ok (.iconst 1, 1) := by decide +kernel
theorem d_L_extent_16 : decode b_L_extent 16 = .ok (.ireturn, 1) := by decide +kernel
theorem d_L_extent_17 : decode b_L_extent 17 = .ok (.iconst 0, 1) := by decide +kernel
theorem d_L_extent_18 : decode b_L_extent 18 = .ok (.ireturn, 1) := by decide +kernel
theorem d_L_byteAt_0 : decode b_L_byteAt 0 = .ok (.aload_n 3, 1) := by decide +kernel
theorem d_L_byteAt_1 : decode b_L_byteAt 1 = .ok (.iconst 0, 1) := by decide +kernel
theorem d_L_byteAt_2 : decode b_L_byteAt 2 = .ok (.aload_n 0, 1) := by decide +kernel
theorem d_L_byteAt_3 : decode b_L_byteAt 3 = .ok (.iload_n 1, 1) := by decide +kernel
theorem d_L_byteAt_4 : decode b_L_byteAt 4 = .ok (.iload_n 2, 1) := by decide +kernel
theorem d_L_byteAt_5 : decode b_L_byteAt 5 = .ok (.invokevirtual 39, 3) := by decide +kernel
theorem d_L_byteAt_8 : decode b_L_byteAt 8 = .ok (.i2l, 1) := by decide +kernel
theorem d_L_byteAt_9 : decode b_L_byteAt 9 = .ok (.lastore, 1) := by decide +kernel
theorem d_L_byteAt_10 : decode b_L_byteAt 10 = .ok (.goto 7, 3) := by decide +kernel
theorem d_L_byteAt_13 : decode b_L_byteAt 13 = .ok (.astore 4, 2) := by decide +kernel
theorem d_L_byteAt_15 : decode b_L_byteAt 15 = .ok (.iconst 1, 1) := by decide +kernel
theorem d_L_byteAt_16 : decode b_L_byteAt 16 = .ok (.ireturn, 1) := by decide +kernel
theorem d_L_byteAt_17 : decode b_L_byteAt 17 = .ok (.iconst 0, 1) := by decide +kernel
theorem d_L_byteAt_18 : decode b_L_byteAt 18 = .ok (.ireturn, 1) := by decide +kernel
theorem d_L_crash_0 : decode b_L_crash 0 = .ok (.aload_n 0, 1) := by decide +kernel
theorem d_L_crash_1 : decode b_L_crash 1 = .ok (.iload_n 1, 1) := by decide +kernel
theorem d_L_crash_2 : decode b_L_crash 2 = .ok (.invokevirtual 42, 3) := by decide +kernel
theorem d_L_crash_5 : decode b_L_crash 5 = .ok (.goto 9, 3) := by decide +kernel
theorem d_L_crash_8 : decode b_L_crash 8 = .ok (.astore_n 2, 1) := by decide +kernel
theorem d_L_crash_9 : decode b_L_crash 9 = .ok (.iconst 1, 1) := by decide +kernel
theorem d_L_crash_10 : decode b_L_crash 10 = .ok (.ireturn, 1) := by decide +kernel
theorem d_L_crash_11 : decode b_L_crash 11 = .ok (.astore_n 2, 1) := by decide +kernel
theorem d_L_crash_12 : decode b_L_crash 12 = .ok (.iconst 2, 1) := by decide +kernel
theorem d_L_crash_13 : decode b_L_crash 13 = .ok (.ireturn, 1) := by decide +kernel
theorem d_L_crash_14 : decode b_L_crash 14 = .ok (.iconst 0, 1) := by decide +kernel
theorem d_L_crash_15 : decode b_L_crash 15 = .ok (.ireturn, 1) := by decide +kernel
theorem d_L_count_0 : decode b_L_count 0 = .ok (.aload_n 2, 1) := by decide +kernel
theorem d_L_count_1 : decode b_L_count 1 = .ok (.iconst 0, 1) := by decide +kernel
theorem d_L_count_2 : decode b_L_count 2 = .ok (.aload_n 0, 1) := by decide +kernel
theorem d_L_count_3 : decode b_L_count 3 = .ok (.iload_n 1, 1) := by decide +kernel
theorem d_L_count_4 : decode b_L_count 4 = .ok (.invokevirtual 46, 3) := by decide +kernel
theorem d_L_count_7 : decode b_L_count 7 = .ok (.i2l, 1) := by decide +kernel
theorem d_L_count_8 : decode b_L_count 8 = .ok (.lastore, 1) := by decide +kernel
theorem d_L_count_9 : decode b_L_count 9 = .ok (.goto 9, 3) := by decide +kernel
theorem d_L_count_12 : decode b_L_count 12 = .ok (.astore_n 3, 1) := by decide +kernel
theorem d_L_count_13 : decode b_L_count 13 = .ok (.iconst 1, 1) := by decide +kernel
theorem d_L_count_14 : decode b_L_count 14 = .ok (.ireturn, 1) := by decide +kernel
theorem d_L_count_15 : decode b_L_count 15 = .ok (.astore_n 3, 1) := by decide +kernel
theorem d_L_count_16 : decode b_L_count 16 = .ok (.iconst 2, 1) := by decide +kernel
theorem d_L_count_17 : decode b_L_count 17 = .ok (.ireturn, 1) := by decide +kernel
theorem d_L_count_18 : decode b_L_count 18 = .ok (.iconst 0, 1) := by decide +kernel
theorem d_L_count_19 : decode b_L_count 19 = .ok (.ireturn, 1) := by decide +kernel
theorem d_L_doubled_0 : decode b_L_doubled 0 = .ok (.aload_n 1, 1) := by decide +kernel
theorem d_L_doubled_1 : decode b_L_doubled 1 = .ok (.iconst 0, 1) := by decide +kernel
theorem d_L_doubled_2 : decode b_L_doubled 2 = .ok (.aload_n 0, 1) := by decide +kernel
theorem d_L_doubled_3 : decode b_L_doubled 3 = .ok (.invokevirtual 49, 3) := by decide +kernel
theorem d_L_doubled_6 : decode b_L_doubled 6 = .ok (.i2l, 1) := by decide +kernel
theorem d_L_doubled_7 : decode b_L_doubled 7 = .ok (.lastore, 1) := by decide +kernel
theorem d_L_doubled_8 : decode b_L_doubled 8 = .ok (.goto 6, 3) := by decide +kernel
theorem d_L_doubled_11 : decode b_L_doubled 11 = .ok (.astore_n 2, 1) := by decide +kernel
theorem d_L_doubled_12 : decode b_L_doubled 12 = .ok (.iconst 1, 1) := by decide +kernel
theorem d_L_doubled_13 : decode b_L_doubled 13 = .ok (.ireturn, 1) := by decide +kernel
theorem d_L_doubled_14 : decode b_L_doubled 14 = .ok (.iconst 0, 1) := by decide +kernel
theorem d_L_doubled_15 : decode b_L_doubled 15 = .ok (.ireturn, 1) := by decide +kernel
theorem d_L_law_0 : decode code 0 = .ok (.new 8, 3) := by decide +kernel
theorem d_L_law_3 : decode code 3 = .ok (.dup, 1) := by decide +kernel
theorem d_L_law_4 : decode code 4 = .ok (.aload_n 0, 1) := by decide +kernel
theorem d_L_law_5 : decode code 5 = .ok (.iconst 0, 1) := by decide +kernel
theorem d_L_law_6 : decode code 6 = .ok (.invokestatic 52, 3) := by decide +kernel
theorem d_L_law_9 : decode code 9 = .ok (.invokespecial 58, 3) := by decide +kernel
theorem d_L_law_12 : decode code 12 = .ok (.astore_n 1, 1) := by decide +kernel
theorem d_L_law_13 : decode code 13 = .ok (.new 60, 3) := by decide +kernel
theorem d_L_law_16 : decode code 16 = .ok (.dup, 1) := by decide +kernel
theorem d_L_law_17 : decode code 17 = .ok (.aload_n 0, 1) := by decide +kernel
theorem d_L_law_18 : decode code 18 = .ok (.iconst 0, 1) := by decide +kernel
theorem d_L_law_19 : decode code 19 = .ok (.invokestatic 52, 3) := by decide +kernel
theorem d_L_law_22 : decode code 22 = .ok (.invokespecial 62, 3) := by decide +kernel
theorem d_L_law_25 : decode code 25 = .ok (.astore_n 2, 1) := by decide +kernel
theorem d_L_law_26 : decode code 26 = .ok (.iconst 1, 1) := by decide +kernel
theorem d_L_law_27 : decode code 27 = .ok (.newarray .long, 2) := by decide +kernel
theorem d_L_law_29 : decode code 29 = .ok (.astore_n 3, 1) := by decide +kernel
theorem d_L_law_30 : decode code 30 = .ok (.iconst 1, 1) := by decide +kernel
theorem d_L_law_31 : decode code 31 = .ok (.istore 4, 2) := by decide +kernel
theorem d_L_law_33 : decode code 33 = .ok (.iload 4, 2) := by decide +kernel
theorem d_L_law_35 : decode code 35 = .ok (.aload_n 0, 1) := by decide +kernel
theorem d_L_law_36 : decode code 36 = .ok (.arraylength, 1) := by decide +kernel
theorem d_L_law_37 : decode code 37 = .ok (.iconst 4, 1) := by decide +kernel
theorem d_L_law_38 : decode code 38 = .ok (.isub, 1) := by decide +kernel
theorem d_L_law_39 : decode code 39 = .ok (.if_icmp .gt 814, 3) := by decide +kernel
theorem d_L_law_42 : decode code 42 = .ok (.aload_n 0, 1) := by decide +kernel
theorem d_L_law_43 : decode code 43 = .ok (.iload 4, 2) := by decide +kernel
theorem d_L_law_45 : decode code 45 = .ok (.iaload, 1) := by decide +kernel
theorem d_L_law_46 : decode code 46 = .ok (.bipush 15, 2) := by decide +kernel
theorem d_L_law_48 : decode code 48 = .ok (.iand, 1) := by decide +kernel
theorem d_L_law_49 : decode code 49 = .ok (.tableswitch 798 0 13 #[71, 171, 239, 283, 351, 407, 487, 555, 623, 659, 672, 685, 698, 754], 71) := by decide +kernel
theorem d_L_law_120 : decode code 120 = .ok (.aload_n 1, 1) := by decide +kernel
theorem d_L_law_121 : decode code 121 = .ok (.aload_n 0, 1) := by decide +kernel
theorem d_L_law_122 : decode code 122 = .ok (.iload 4, 2) := by decide +kernel
theorem d_L_law_124 : decode code 124 = .ok (.iconst 1, 1) := by decide +kernel
theorem d_L_law_125 : decode code 125 = .ok (.iadd, 1) := by decide +kernel
theorem d_L_law_126 : decode code 126 = .ok (.iaload, 1) := by decide +kernel
theorem d_L_law_127 : decode code 127 = .ok (.i2l, 1) := by decide +kernel
theorem d_L_law_128 : decode code 128 = .ok (.bipush 32, 2) := by decide +kernel
theorem d_L_law_130 : decode code 130 = .ok (.lshl, 1) := by decide +kernel
theorem d_L_law_131 : decode code 131 = .ok (.aload_n 0, 1) := by decide +kernel
theorem d_L_law_132 : decode code 132 = .ok (.iload 4, 2) := by decide +kernel
theorem d_L_law_134 : decode code 134 = .ok (.iconst 2, 1) := by decide +kernel
theorem d_L_law_135 : decode code 135 = .ok (.iadd, 1) := by decide +kernel
theorem d_L_law_136 : decode code 136 = .ok (.iaload, 1) := by decide +kernel
theorem d_L_law_137 : decode code 137 = .ok (.i2l, 1) := by decide +kernel
theorem d_L_law_138 : decode code 138 = .ok (.ldc2_w 63, 3) := by decide +kernel
theorem d_L_law_141 : decode code 141 = .ok (.land, 1) := by decide +kernel
theorem d_L_law_142 : decode code 142 = .ok (.lor, 1) := by decide +kernel
theorem d_L_law_143 : decode code 143 = .ok (.aload_n 0, 1) := by decide +kernel
theorem d_L_law_144 : decode code 144 = .ok (.iload 4, 2) := by decide +kernel
theorem d_L_law_146 : decode code 146 = .ok (.iconst 3, 1) := by decide +kernel
theorem d_L_law_147 : decode code 147 = .ok (.iadd, 1) := by decide +kernel
theorem d_L_law_148 : decode code 148 = .ok (.iaload, 1) := by decide +kernel
theorem d_L_law_149 : decode code 149 = .ok (.aload_n 3, 1) := by decide +kernel
theorem d_L_law_150 : decode code 150 = .ok (.invokestatic 65, 3) := by decide +kernel
theorem d_L_law_153 : decode code 153 = .ok (.istore 5, 2) := by decide +kernel
theorem d_L_law_155 : decode code 155 = .ok (.aload_n 2, 1) := by decide +kernel
theorem d_L_law_156 : decode code 156 = .ok (.aload_n 0, 1) := by decide +kernel
theorem d_L_law_157 : decode code 157 = .ok (.iload 4, 2) := by decide +kernel
theorem d_L_law_159 : decode code 159 = .ok (.iconst 1, 1) := by decide +kernel
theorem d_L_law_160 : decode code 160 = .ok (.iadd, 1) := by decide +kernel
theorem d_L_law_161 : decode code 161 = .ok (.iaload, 1) := by decide +kernel
theorem d_L_law_162 : decode code 162 = .ok (.i2l, 1) := by decide +kernel
theorem d_L_law_163 : decode code 163 = .ok (.bipush 32, 2) := by decide +kernel
theorem d_L_law_165 : decode code 165 = .ok (.lshl, 1) := by decide +kernel
theorem d_L_law_166 : decode code 166 = .ok (.aload_n 0, 1) := by decide +kernel
theorem d_L_law_167 : decode code 167 = .ok (.iload 4, 2) := by decide +kernel
theorem d_L_law_169 : decode code 169 = .ok (.iconst 2, 1) := by decide +kernel
theorem d_L_law_170 : decode code 170 = .ok (.iadd, 1) := by decide +kernel
theorem d_L_law_171 : decode code 171 = .ok (.iaload, 1) := by decide +kernel
theorem d_L_law_172 : decode code 172 = .ok (.i2l, 1) := by decide +kernel
theorem d_L_law_173 : decode code 173 = .ok (.ldc2_w 63, 3) := by decide +kernel
theorem d_L_law_176 : decode code 176 = .ok (.land, 1) := by decide +kernel
theorem d_L_law_177 : decode code 177 = .ok (.lor, 1) := by decide +kernel
theorem d_L_law_178 : decode code 178 = .ok (.aload_n 0, 1) := by decide +kernel
theorem d_L_law_179 : decode code 179 = .ok (.iload 4, 2) := by decide +kernel
theorem d_L_law_181 : decode code 181 = .ok (.iconst 3, 1) := by decide +kernel
theorem d_L_law_182 : decode code 182 = .ok (.iadd, 1) := by decide +kernel
theorem d_L_law_183 : decode code 183 = .ok (.iaload, 1) := by decide +kernel
theorem d_L_law_184 : decode code 184 = .ok (.invokevirtual 68, 3) := by decide +kernel
theorem d_L_law_187 : decode code 187 = .ok (.istore 6, 2) := by decide +kernel
theorem d_L_law_189 : decode code 189 = .ok (.aload_n 2, 1) := by decide +kernel
theorem d_L_law_190 : decode code 190 = .ok (.invokevirtual 69, 3) := by decide +kernel
theorem d_L_law_193 : decode code 193 = .ok (.iload 5, 2) := by decide +kernel
theorem d_L_law_195 : decode code 195 = .ok (.if_icmp .eq 5, 3) := by decide +kernel
theorem d_L_law_198 : decode code 198 = .ok (.iconst 0, 1) := by decide +kernel
theorem d_L_law_199 : decode code 199 = .ok (.ireturn, 1) := by decide +kernel
theorem d_L_law_200 : decode code 200 = .ok (.iload 5, 2) := by decide +kernel
theorem d_L_law_202 : decode code 202 = .ok (.ifCond .ne 15, 3) := by decide +kernel
theorem d_L_law_205 : decode code 205 = .ok (.aload_n 3, 1) := by decide +kernel
theorem d_L_law_206 : decode code 206 = .ok (.iconst 0, 1) := by decide +kernel
theorem d_L_law_207 : decode code 207 = .ok (.laload, 1) := by decide +kernel
theorem d_L_law_208 : decode code 208 = .ok (.iload 6, 2) := by decide +kernel
theorem d_L_law_210 : decode code 210 = .ok (.i2l, 1) := by decide +kernel
theorem d_L_law_211 : decode code 211 = .ok (.lcmp, 1) := by decide +kernel
theorem d_L_law_212 : decode code 212 = .ok (.ifCond .eq 5, 3) := by decide +kernel
theorem d_L_law_215 : decode code 215 = .ok (.iconst 0, 1) := by decide +kernel
theorem d_L_law_216 : decode code 216 = .ok (.ireturn, 1) := by decide +kernel
theorem d_L_law_217 : decode code 217 = .ok (.goto 630, 3) := by decide +kernel
theorem d_L_law_220 : decode code 220 = .ok (.aload_n 1, 1) := by decide +kernel
theorem d_L_law_221 : decode code 221 = .ok (.aload_n 0, 1) := by decide +kernel
theorem d_L_law_222 : decode code 222 = .ok (.iload 4, 2) := by decide +kernel
theorem d_L_law_224 : decode code 224 = .ok (.iconst 1, 1) := by decide +kernel
theorem d_L_law_225 : decode code 225 = .ok (.iadd, 1) := by decide +kernel
theorem d_L_law_226 : decode code 226 = .ok (.iaload, 1) := by decide +kernel
theorem d_L_law_227 : decode code 227 = .ok (.aload_n 0, 1) := by decide +kernel
theorem d_L_law_228 : decode code 228 = .ok (.iload 4, 2) := by decide +kernel
theorem d_L_law_230 : decode code 230 = .ok (.iconst 2, 1) := by decide +kernel
theorem d_L_law_231 : decode code 231 = .ok (.iadd, 1) := by decide +kernel
theorem d_L_law_232 : decode code 232 = .ok (.iaload, 1) := by decide +kernel
theorem d_L_law_233 : decode code 233 = .ok (.aload_n 3, 1) := by decide +kernel
theorem d_L_law_234 : decode code 234 = .ok (.invokestatic 72, 3) := by decide +kernel
theorem d_L_law_237 : decode code 237 = .ok (.istore 5, 2) := by decide +kernel
theorem d_L_law_239 : decode code 239 = .ok (.aload_n 2, 1) := by decide +kernel
theorem d_L_law_240 : decode code 240 = .ok (.aload_n 0, 1) := by decide +kernel
theorem d_L_law_241 : decode code 241 = .ok (.iload 4, 2) := by decide +kernel
theorem d_L_law_243 : decode code 243 = .ok (.iconst 1, 1) := by decide +kernel
theorem d_L_law_244 : decode code 244 = .ok (.iadd, 1) := by decide +kernel
theorem d_L_law_245 : decode code 245 = .ok (.iaload, 1) := by decide +kernel
theorem d_L_law_246 : decode code 246 = .ok (.aload_n 0, 1) := by decide +kernel
theorem d_L_law_247 : decode code 247 = .ok (.iload 4, 2) := by decide +kernel
theorem d_L_law_249 : decode code 249 = .ok (.iconst 2, 1) := by decide +kernel
theorem d_L_law_250 : decode code 250 = .ok (.iadd, 1) := by decide +kernel
theorem d_L_law_251 : decode code 251 = .ok (.iaload, 1) := by decide +kernel
theorem d_L_law_252 : decode code 252 = .ok (.invokevirtual 75, 3) := by decide +kernel
theorem d_L_law_255 : decode code 255 = .ok (.istore 6, 2) := by decide +kernel
theorem d_L_law_257 : decode code 257 = .ok (.aload_n 2, 1) := by decide +kernel
theorem d_L_law_258 : decode code 258 = .ok (.invokevirtual 69, 3) := by decide +kernel
theorem d_L_law_261 : decode code 261 = .ok (.iload 5, 2) := by decide +kernel
theorem d_L_law_263 : decode code 263 = .ok (.if_icmp .eq 5, 3) := by decide +kernel
theorem d_L_law_266 : decode code 266 = .ok (.iconst 0, 1) := by decide +kernel
theorem d_L_law_267 : decode code 267 = .ok (.ireturn, 1) := by decide +kernel
theorem d_L_law_268 : decode code 268 = .ok (.iload 5, 2) := by decide +kernel
theorem d_L_law_270 : decode code 270 = .ok (.ifCond .ne 15, 3) := by decide +kernel
theorem d_L_law_273 : decode code 273 = .ok (.aload_n 3, 1) := by decide +kernel
theorem d_L_law_274 : decode code 274 = .ok (.iconst 0, 1) := by decide +kernel
theorem d_L_law_275 : decode code 275 = .ok (.laload, 1) := by decide +kernel
theorem d_L_law_276 : decode code 276 = .ok (.iload 6, 2) := by decide +kernel
theorem d_L_law_278 : decode code 278 = .ok (.i2l, 1) := by decide +kernel
theorem d_L_law_279 : decode code 279 = .ok (.lcmp, 1) := by decide +kernel
theorem d_L_law_280 : decode code 280 = .ok (.ifCond .eq 5, 3) := by decide +kernel
theorem d_L_law_283 : decode code 283 = .ok (.iconst 0, 1) := by decide +kernel
theorem d_L_law_284 : decode code 284 = .ok (.ireturn, 1) := by decide +kernel
theorem d_L_law_285 : decode code 285 = .ok (.goto 562, 3) := by decide +kernel
theorem d_L_law_288 : decode code 288 = .ok (.aload_n 1, 1) := by decide +kernel
theorem d_L_law_289 : decode code 289 = .ok (.aload_n 3, 1) := by decide +kernel
theorem d_L_law_290 : decode code 290 = .ok (.invokestatic 76, 3) := by decide +kernel
theorem d_L_law_293 : decode code 293 = .ok (.istore 5, 2) := by decide +kernel
theorem d_L_law_295 : decode code 295 = .ok (.aload_n 2, 1) := by decide +kernel
theorem d_L_law_296 : decode code 296 = .ok (.invokevirtual 79, 3) := by decide +kernel
theorem d_L_law_299 : decode code 299 = .ok (.istore 6, 2) := by decide +kernel
theorem d_L_law_301 : decode code 301 = .ok (.aload_n 2, 1) := by decide +kernel
theorem d_L_law_302 : decode code 302 = .ok (.invokevirtual 69, 3) := by decide +kernel
theorem d_L_law_305 : decode code 305 = .ok (.iload 5, 2) := by decide +kernel
theorem d_L_law_307 : decode code 307 = .ok (.if_icmp .eq 5, 3) := by decide +kernel
theorem d_L_law_310 : decode code 310 = .ok (.iconst 0, 1) := by decide +kernel
theorem d_L_law_311 : decode code 311 = .ok (.ireturn, 1) := by decide +kernel
theorem d_L_law_312 : decode code 312 = .ok (.iload 5, 2) := by decide +kernel
theorem d_L_law_314 : decode code 314 = .ok (.ifCond .ne 15, 3) := by decide +kernel
theorem d_L_law_317 : decode code 317 = .ok (.aload_n 3, 1) := by decide +kernel
theorem d_L_law_318 : decode code 318 = .ok (.iconst 0, 1) := by decide +kernel
theorem d_L_law_319 : decode code 319 = .ok (.laload, 1) := by decide +kernel
theorem d_L_law_320 : decode code 320 = .ok (.iload 6, 2) := by decide +kernel
theorem d_L_law_322 : decode code 322 = .ok (.i2l, 1) := by decide +kernel
theorem d_L_law_323 : decode code 323 = .ok (.lcmp, 1) := by decide +kernel
theorem d_L_law_324 : decode code 324 = .ok (.ifCond .eq 5, 3) := by decide +kernel
theorem d_L_law_327 : decode code 327 = .ok (.iconst 0, 1) := by decide +kernel
theorem d_L_law_328 : decode code 328 = .ok (.ireturn, 1) := by decide +kernel
theorem d_L_law_329 : decode code 329 = .ok (.goto 518, 3) := by decide +kernel
theorem d_L_law_332 : decode code 332 = .ok (.aload_n 1, 1) := by decide +kernel
theorem d_L_law_333 : decode code 333 = .ok (.aload_n 0, 1) := by decide +kernel
theorem d_L_law_334 : decode code 334 = .ok (.iload 4, 2) := by decide +kernel
theorem d_L_law_336 : decode code 336 = .ok (.iconst 1, 1) := by decide +kernel
theorem d_L_law_337 : decode code 337 = .ok (.iadd, 1) := by decide +kernel
theorem d_L_law_338 : decode code 338 = .ok (.iaload, 1) := by decide +kernel
theorem d_L_law_339 : decode code 339 = .ok (.aload_n 0, 1) := by decide +kernel
theorem d_L_law_340 : decode code 340 = .ok (.iload 4, 2) := by decide +kernel
theorem d_L_law_342 : decode code 342 = .ok (.iconst 2, 1) := by decide +kernel
theorem d_L_law_343 : decode code 343 = .ok (.iadd, 1) := by decide +kernel
theorem d_L_law_344 : decode code 344 = .ok (.iaload, 1) := by decide +kernel
theorem d_L_law_345 : decode code 345 = .ok (.aload_n 3, 1) := by decide +kernel
theorem d_L_law_346 : decode code 346 = .ok (.invokestatic 80, 3) := by decide +kernel
theorem d_L_law_349 : decode code 349 = .ok (.istore 5, 2) := by decide +kernel
theorem d_L_law_351 : decode code 351 = .ok (.aload_n 2, 1) := by decide +kernel
theorem d_L_law_352 : decode code 352 = .ok (.aload_n 0, 1) := by decide +kernel
theorem d_L_law_353 : decode code 353 = .ok (.iload 4, 2) := by decide +kernel
theorem d_L_law_355 : decode code 355 = .ok (.iconst 1, 1) := by decide +kernel
theorem d_L_law_356 : decode code 356 = .ok (.iadd, 1) := by decide +kernel
theorem d_L_law_357 : decode code 357 = .ok (.iaload, 1) := by decide +kernel
theorem d_L_law_358 : decode code 358 = .ok (.aload_n 0, 1) := by decide +kernel
theorem d_L_law_359 : decode code 359 = .ok (.iload 4, 2) := by decide +kernel
theorem d_L_law_361 : decode code 361 = .ok (.iconst 2, 1) := by decide +kernel
theorem d_L_law_362 : decode code 362 = .ok (.iadd, 1) := by decide +kernel
theorem d_L_law_363 : decode code 363 = .ok (.iaload, 1) := by decide +kernel
theorem d_L_law_364 : decode code 364 = .ok (.invokevirtual 82, 3) := by decide +kernel
theorem d_L_law_367 : decode code 367 = .ok (.istore 6, 2) := by decide +kernel
theorem d_L_law_369 : decode code 369 = .ok (.aload_n 2, 1) := by decide +kernel
theorem d_L_law_370 : decode code 370 = .ok (.invokevirtual 69, 3) := by decide +kernel
theorem d_L_law_373 : decode code 373 = .ok (.iload 5, 2) := by decide +kernel
