theorem d_K_change_148 : decode b_K_change 148 = .ok (.iload 7, 2) := by decide +kernel
theorem d_K_change_150 : decode b_K_change 150 = .ok (.ifCond .eq 10, 3) := by decide +kernel
theorem d_K_change_153 : decode b_K_change 153 = .ok (.aload_n 0, 1) := by decide +kernel
theorem d_K_change_154 : decode b_K_change 154 = .ok (.getfield 7, 3) := by decide +kernel
theorem d_K_change_157 : decode b_K_change 157 = .ok (.goto 7, 3) := by decide +kernel
theorem d_K_change_160 : decode b_K_change 160 = .ok (.iload 4, 2) := by decide +kernel
theorem d_K_change_162 : decode b_K_change 162 = .ok (.iconst 1, 1) := by decide +kernel
theorem d_K_change_163 : decode b_K_change 163 = .ok (.iadd, 1) := by decide +kernel
theorem d_K_change_164 : decode b_K_change 164 = .ok (.istore 8, 2) := by decide +kernel
theorem d_K_change_166 : decode b_K_change 166 = .ok (.aload_n 0, 1) := by decide +kernel
theorem d_K_change_167 : decode b_K_change 167 = .ok (.dup, 1) := by decide +kernel
theorem d_K_change_168 : decode b_K_change 168 = .ok (.getfield 75, 3) := by decide +kernel
theorem d_K_change_171 : decode b_K_change 171 = .ok (.iload 8, 2) := by decide +kernel
theorem d_K_change_173 : decode b_K_change 173 = .ok (.iadd, 1) := by decide +kernel
theorem d_K_change_174 : decode b_K_change 174 = .ok (.putfield 75, 3) := by decide +kernel
theorem d_K_change_177 : decode b_K_change 177 = .ok (.aload_n 0, 1) := by decide +kernel
theorem d_K_change_178 : decode b_K_change 178 = .ok (.aload_n 0, 1) := by decide +kernel
theorem d_K_change_179 : decode b_K_change 179 = .ok (.getfield 7, 3) := by decide +kernel
theorem d_K_change_182 : decode b_K_change 182 = .ok (.ifCond .ge 7, 3) := by decide +kernel
theorem d_K_change_185 : decode b_K_change 185 = .ok (.iconst (-1), 1) := by decide +kernel
theorem d_K_change_186 : decode b_K_change 186 = .ok (.goto 10, 3) := by decide +kernel
theorem d_K_change_189 : decode b_K_change 189 = .ok (.aload_n 0, 1) := by decide +kernel
theorem d_K_change_190 : decode b_K_change 190 = .ok (.getfield 7, 3) := by decide +kernel
theorem d_K_change_193 : decode b_K_change 193 = .ok (.iload 8, 2) := by decide +kernel
theorem d_K_change_195 : decode b_K_change 195 = .ok (.isub, 1) := by decide +kernel
theorem d_K_change_196 : decode b_K_change 196 = .ok (.putfield 7, 3) := by decide +kernel
theorem d_K_change_199 : decode b_K_change 199 = .ok (.iload 8, 2) := by decide +kernel
theorem d_K_change_201 : decode b_K_change 201 = .ok (.iload 4, 2) := by decide +kernel
theorem d_K_change_203 : decode b_K_change 203 = .ok (.iconst 1, 1) := by decide +kernel
theorem d_K_change_204 : decode b_K_change 204 = .ok (.iadd, 1) := by decide +kernel
theorem d_K_change_205 : decode b_K_change 205 = .ok (.if_icmp .ne 14, 3) := by decide +kernel
theorem d_K_change_208 : decode b_K_change 208 = .ok (.aload_n 0, 1) := by decide +kernel
theorem d_K_change_209 : decode b_K_change 209 = .ok (.iload_n 1, 1) := by decide +kernel
theorem d_K_change_210 : decode b_K_change 210 = .ok (.iload_n 2, 1) := by decide +kernel
theorem d_K_change_211 : decode b_K_change 211 = .ok (.iload_n 3, 1) := by decide +kernel
theorem d_K_change_212 : decode b_K_change 212 = .ok (.iload 6, 2) := by decide +kernel
theorem d_K_change_214 : decode b_K_change 214 = .ok (.iload 4, 2) := by decide +kernel
theorem d_K_change_216 : decode b_K_change 216 = .ok (.invokevirtual 78, 3) := by decide +kernel
theorem d_K_change_219 : decode b_K_change 219 = .ok (.iload 7, 2) := by decide +kernel
theorem d_K_change_221 : decode b_K_change 221 = .ok (.ifCond .eq 10, 3) := by decide +kernel
theorem d_K_change_224 : decode b_K_change 224 = .ok (.aload_n 0, 1) := by decide +kernel
theorem d_K_change_225 : decode b_K_change 225 = .ok (.invokevirtual 82, 3) := by decide +kernel
theorem d_K_change_228 : decode b_K_change 228 = .ok (.bipush (-3), 2) := by decide +kernel
theorem d_K_change_230 : decode b_K_change 230 = .ok (.ireturn, 1) := by decide +kernel
theorem d_K_change_231 : decode b_K_change 231 = .ok (.aload_n 0, 1) := by decide +kernel
theorem d_K_change_232 : decode b_K_change 232 = .ok (.iconst 0, 1) := by decide +kernel
theorem d_K_change_233 : decode b_K_change 233 = .ok (.putfield 54, 3) := by decide +kernel
theorem d_K_change_236 : decode b_K_change 236 = .ok (.iload 4, 2) := by decide +kernel
theorem d_K_change_238 : decode b_K_change 238 = .ok (.iconst 1, 1) := by decide +kernel
theorem d_K_change_239 : decode b_K_change 239 = .ok (.iadd, 1) := by decide +kernel
theorem d_K_change_240 : decode b_K_change 240 = .ok (.ireturn, 1) := by decide +kernel
theorem d_K_goes_0 : decode b_K_goes 0 = .ok (.aload_n 0, 1) := by decide +kernel
theorem d_K_goes_1 : decode b_K_goes 1 = .ok (.getfield 13, 3) := by decide +kernel
theorem d_K_goes_4 : decode b_K_goes 4 = .ok (.iload_n 1, 1) := by decide +kernel
theorem d_K_goes_5 : decode b_K_goes 5 = .ok (.iaload, 1) := by decide +kernel
theorem d_K_goes_6 : decode b_K_goes 6 = .ok (.iload_n 2, 1) := by decide +kernel
theorem d_K_goes_7 : decode b_K_goes 7 = .ok (.if_icmp .lt 17, 3) := by decide +kernel
theorem d_K_goes_10 : decode b_K_goes 10 = .ok (.aload_n 0, 1) := by decide +kernel
theorem d_K_goes_11 : decode b_K_goes 11 = .ok (.getfield 13, 3) := by decide +kernel
theorem d_K_goes_14 : decode b_K_goes 14 = .ok (.iload_n 1, 1) := by decide +kernel
theorem d_K_goes_15 : decode b_K_goes 15 = .ok (.iaload, 1) := by decide +kernel
theorem d_K_goes_16 : decode b_K_goes 16 = .ok (.iload_n 3, 1) := by decide +kernel
theorem d_K_goes_17 : decode b_K_goes 17 = .ok (.if_icmp .gt 7, 3) := by decide +kernel
theorem d_K_goes_20 : decode b_K_goes 20 = .ok (.iconst 1, 1) := by decide +kernel
theorem d_K_goes_21 : decode b_K_goes 21 = .ok (.goto 4, 3) := by decide +kernel
theorem d_K_goes_24 : decode b_K_goes 24 = .ok (.iconst 0, 1) := by decide +kernel
theorem d_K_goes_25 : decode b_K_goes 25 = .ok (.ireturn, 1) := by decide +kernel
theorem d_K_placeFor_0 : decode b_K_placeFor 0 = .ok (.aload_n 0, 1) := by decide +kernel
theorem d_K_placeFor_1 : decode b_K_placeFor 1 = .ok (.invokevirtual 61, 3) := by decide +kernel
theorem d_K_placeFor_4 : decode b_K_placeFor 4 = .ok (.iconst 2, 1) := by decide +kernel
theorem d_K_placeFor_5 : decode b_K_placeFor 5 = .ok (.istore_n 2, 1) := by decide +kernel
theorem d_K_placeFor_6 : decode b_K_placeFor 6 = .ok (.iload_n 2, 1) := by decide +kernel
theorem d_K_placeFor_7 : decode b_K_placeFor 7 = .ok (.iload_n 1, 1) := by decide +kernel
theorem d_K_placeFor_8 : decode b_K_placeFor 8 = .ok (.iadd, 1) := by decide +kernel
theorem d_K_placeFor_9 : decode b_K_placeFor 9 = .ok (.aload_n 0, 1) := by decide +kernel
theorem d_K_placeFor_10 : decode b_K_placeFor 10 = .ok (.getfield 44, 3) := by decide +kernel
theorem d_K_placeFor_13 : decode b_K_placeFor 13 = .ok (.if_icmp .gt 54, 3) := by decide +kernel
theorem d_K_placeFor_16 : decode b_K_placeFor 16 = .ok (.iconst 1, 1) := by decide +kernel
theorem d_K_placeFor_17 : decode b_K_placeFor 17 = .ok (.istore_n 3, 1) := by decide +kernel
theorem d_K_placeFor_18 : decode b_K_placeFor 18 = .ok (.iload_n 2, 1) := by decide +kernel
theorem d_K_placeFor_19 : decode b_K_placeFor 19 = .ok (.istore 4, 2) := by decide +kernel
theorem d_K_placeFor_21 : decode b_K_placeFor 21 = .ok (.iload 4, 2) := by decide +kernel
theorem d_K_placeFor_23 : decode b_K_placeFor 23 = .ok (.iload_n 2, 1) := by decide +kernel
theorem d_K_placeFor_24 : decode b_K_placeFor 24 = .ok (.iload_n 1, 1) := by decide +kernel
theorem d_K_placeFor_25 : decode b_K_placeFor 25 = .ok (.iadd, 1) := by decide +kernel
theorem d_K_placeFor_26 : decode b_K_placeFor 26 = .ok (.if_icmp .ge 29, 3) := by decide +kernel
theorem d_K_placeFor_29 : decode b_K_placeFor 29 = .ok (.iload_n 3, 1) := by decide +kernel
theorem d_K_placeFor_30 : decode b_K_placeFor 30 = .ok (.ifCond .eq 17, 3) := by decide +kernel
theorem d_K_placeFor_33 : decode b_K_placeFor 33 = .ok (.aload_n 0, 1) := by decide +kernel
theorem d_K_placeFor_34 : decode b_K_placeFor 34 = .ok (.getfield 34, 3) := by decide +kernel
theorem d_K_placeFor_37 : decode b_K_placeFor 37 = .ok (.iload 4, 2) := by decide +kernel
theorem d_K_placeFor_39 : decode b_K_placeFor 39 = .ok (.baload, 1) := by decide +kernel
theorem d_K_placeFor_40 : decode b_K_placeFor 40 = .ok (.ifCond .ne 7, 3) := by decide +kernel
theorem d_K_placeFor_43 : decode b_K_placeFor 43 = .ok (.iconst 1, 1) := by decide +kernel
theorem d_K_placeFor_44 : decode b_K_placeFor 44 = .ok (.goto 4, 3) := by decide +kernel
theorem d_K_placeFor_47 : decode b_K_placeFor 47 = .ok (.iconst 0, 1) := by decide +kernel
theorem d_K_placeFor_48 : decode b_K_placeFor 48 = .ok (.istore_n 3, 1) := by decide +kernel
theorem d_K_placeFor_49 : decode b_K_placeFor 49 = .ok (.iinc 4 1, 3) := by decide +kernel
theorem d_K_placeFor_52 : decode b_K_placeFor 52 = .ok (.goto (-31), 3) := by decide +kernel
theorem d_K_placeFor_55 : decode b_K_placeFor 55 = .ok (.iload_n 3, 1) := by decide +kernel
theorem d_K_placeFor_56 : decode b_K_placeFor 56 = .ok (.ifCond .eq 5, 3) := by decide +kernel
theorem d_K_placeFor_59 : decode b_K_placeFor 59 = .ok (.iload_n 2, 1) := by decide +kernel
theorem d_K_placeFor_60 : decode b_K_placeFor 60 = .ok (.ireturn, 1) := by decide +kernel
theorem d_K_placeFor_61 : decode b_K_placeFor 61 = .ok (.iinc 2 1, 3) := by decide +kernel
theorem d_K_placeFor_64 : decode b_K_placeFor 64 = .ok (.goto (-58), 3) := by decide +kernel
theorem d_K_placeFor_67 : decode b_K_placeFor 67 = .ok (.iconst (-1), 1) := by decide +kernel
theorem d_K_placeFor_68 : decode b_K_placeFor 68 = .ok (.ireturn, 1) := by decide +kernel
theorem d_K_mark_0 : decode b_K_mark 0 = .ok (.iconst 0, 1) := by decide +kernel
theorem d_K_mark_1 : decode b_K_mark 1 = .ok (.istore_n 1, 1) := by decide +kernel
theorem d_K_mark_2 : decode b_K_mark 2 = .ok (.iload_n 1, 1) := by decide +kernel
theorem d_K_mark_3 : decode b_K_mark 3 = .ok (.sipush 128, 3) := by decide +kernel
theorem d_K_mark_6 : decode b_K_mark 6 = .ok (.if_icmp .ge 25, 3) := by decide +kernel
theorem d_K_mark_9 : decode b_K_mark 9 = .ok (.aload_n 0, 1) := by decide +kernel
theorem d_K_mark_10 : decode b_K_mark 10 = .ok (.getfield 34, 3) := by decide +kernel
theorem d_K_mark_13 : decode b_K_mark 13 = .ok (.iload_n 1, 1) := by decide +kernel
theorem d_K_mark_14 : decode b_K_mark 14 = .ok (.iload_n 1, 1) := by decide +kernel
theorem d_K_mark_15 : decode b_K_mark 15 = .ok (.iconst 2, 1) := by decide +kernel
theorem d_K_mark_16 : decode b_K_mark 16 = .ok (.if_icmp .ge 7, 3) := by decide +kernel
theorem d_K_mark_19 : decode b_K_mark 19 = .ok (.iconst 1, 1) := by decide +kernel
theorem d_K_mark_20 : decode b_K_mark 20 = .ok (.goto 4, 3) := by decide +kernel
theorem d_K_mark_23 : decode b_K_mark 23 = .ok (.iconst 0, 1) := by decide +kernel
theorem d_K_mark_24 : decode b_K_mark 24 = .ok (.bastore, 1) := by decide +kernel
theorem d_K_mark_25 : decode b_K_mark 25 = .ok (.iinc 1 1, 3) := by decide +kernel
theorem d_K_mark_28 : decode b_K_mark 28 = .ok (.goto (-26), 3) := by decide +kernel
theorem d_K_mark_31 : decode b_K_mark 31 = .ok (.iconst 0, 1) := by decide +kernel
theorem d_K_mark_32 : decode b_K_mark 32 = .ok (.istore_n 1, 1) := by decide +kernel
theorem d_K_mark_33 : decode b_K_mark 33 = .ok (.iload_n 1, 1) := by decide +kernel
theorem d_K_mark_34 : decode b_K_mark 34 = .ok (.aload_n 0, 1) := by decide +kernel
theorem d_K_mark_35 : decode b_K_mark 35 = .ok (.getfield 58, 3) := by decide +kernel
theorem d_K_mark_38 : decode b_K_mark 38 = .ok (.if_icmp .ge 46, 3) := by decide +kernel
theorem d_K_mark_41 : decode b_K_mark 41 = .ok (.aload_n 0, 1) := by decide +kernel
theorem d_K_mark_42 : decode b_K_mark 42 = .ok (.getfield 17, 3) := by decide +kernel
theorem d_K_mark_45 : decode b_K_mark 45 = .ok (.iload_n 1, 1) := by decide +kernel
theorem d_K_mark_46 : decode b_K_mark 46 = .ok (.iaload, 1) := by decide +kernel
theorem d_K_mark_47 : decode b_K_mark 47 = .ok (.istore_n 2, 1) := by decide +kernel
theorem d_K_mark_48 : decode b_K_mark 48 = .ok (.iload_n 2, 1) := by decide +kernel
theorem d_K_mark_49 : decode b_K_mark 49 = .ok (.aload_n 0, 1) := by decide +kernel
theorem d_K_mark_50 : decode b_K_mark 50 = .ok (.getfield 17, 3) := by decide +kernel
theorem d_K_mark_53 : decode b_K_mark 53 = .ok (.iload_n 1, 1) := by decide +kernel
theorem d_K_mark_54 : decode b_K_mark 54 = .ok (.iaload, 1) := by decide +kernel
theorem d_K_mark_55 : decode b_K_mark 55 = .ok (.aload_n 0, 1) := by decide +kernel
theorem d_K_mark_56 : decode b_K_mark 56 = .ok (.getfield 20, 3) := by decide +kernel
theorem d_K_mark_59 : decode b_K_mark 59 = .ok (.iload_n 1, 1) := by decide +kernel
theorem d_K_mark_60 : decode b_K_mark 60 = .ok (.iaload, 1) := by decide +kernel
theorem d_K_mark_61 : decode b_K_mark 61 = .ok (.iadd, 1) := by decide +kernel
theorem d_K_mark_62 : decode b_K_mark 62 = .ok (.if_icmp .ge 16, 3) := by decide +kernel
theorem d_K_mark_65 : decode b_K_mark 65 = .ok (.aload_n 0, 1) := by decide +kernel
theorem d_K_mark_66 : decode b_K_mark 66 = .ok (.getfield 34, 3) := by decide +kernel
theorem d_K_mark_69 : decode b_K_mark 69 = .ok (.iload_n 2, 1) := by decide +kernel
theorem d_K_mark_70 : decode b_K_mark 70 = .ok (.iconst 1, 1) := by decide +kernel
theorem d_K_mark_71 : decode b_K_mark 71 = .ok (.bastore, 1) := by decide +kernel
theorem d_K_mark_72 : decode b_K_mark 72 = .ok (.iinc 2 1, 3) := by decide +kernel
theorem d_K_mark_75 : decode b_K_mark 75 = .ok (.goto (-27), 3) := by decide +kernel
theorem d_K_mark_78 : decode b_K_mark 78 = .ok (.iinc 1 1, 3) := by decide +kernel
theorem d_K_mark_81 : decode b_K_mark 81 = .ok (.goto (-48), 3) := by decide +kernel
theorem d_K_mark_84 : decode b_K_mark 84 = .ok (.return_, 1) := by decide +kernel
theorem d_K_happen_0 : decode b_K_happen 0 = .ok (.iconst 0, 1) := by decide +kernel
theorem d_K_happen_1 : decode b_K_happen 1 = .ok (.istore 6, 2) := by decide +kernel
theorem d_K_happen_3 : decode b_K_happen 3 = .ok (.iconst 0, 1) := by decide +kernel
theorem d_K_happen_4 : decode b_K_happen 4 = .ok (.istore 7, 2) := by decide +kernel
theorem d_K_happen_6 : decode b_K_happen 6 = .ok (.iload 7, 2) := by decide +kernel
theorem d_K_happen_8 : decode b_K_happen 8 = .ok (.aload_n 0, 1) := by decide +kernel
theorem d_K_happen_9 : decode b_K_happen 9 = .ok (.getfield 58, 3) := by decide +kernel
theorem d_K_happen_12 : decode b_K_happen 12 = .ok (.if_icmp .ge 79, 3) := by decide +kernel
theorem d_K_happen_15 : decode b_K_happen 15 = .ok (.aload_n 0, 1) := by decide +kernel
theorem d_K_happen_16 : decode b_K_happen 16 = .ok (.iload 7, 2) := by decide +kernel
theorem d_K_happen_18 : decode b_K_happen 18 = .ok (.iload_n 2, 1) := by decide +kernel
theorem d_K_happen_19 : decode b_K_happen 19 = .ok (.iload_n 3, 1) := by decide +kernel
theorem d_K_happen_20 : decode b_K_happen 20 = .ok (.invokevirtual 64, 3) := by decide +kernel
theorem d_K_happen_23 : decode b_K_happen 23 = .ok (.ifCond .ne 62, 3) := by decide +kernel
theorem d_K_happen_26 : decode b_K_happen 26 = .ok (.aload_n 0, 1) := by decide +kernel
theorem d_K_happen_27 : decode b_K_happen 27 = .ok (.getfield 13, 3) := by decide +kernel
theorem d_K_happen_30 : decode b_K_happen 30 = .ok (.iload 6, 2) := by decide +kernel
theorem d_K_happen_32 : decode b_K_happen 32 = .ok (.aload_n 0, 1) := by decide +kernel
theorem d_K_happen_33 : decode b_K_happen 33 = .ok (.getfield 13, 3) := by decide +kernel
theorem d_K_happen_36 : decode b_K_happen 36 = .ok (.iload 7, 2) := by decide +kernel
theorem d_K_happen_38 : decode b_K_happen 38 = .ok (.iaload, 1) := by decide +kernel
theorem d_K_happen_39 : decode b_K_happen 39 = .ok (.iastore, 1) := by decide +kernel
theorem d_K_happen_40 : decode b_K_happen 40 = .ok (.aload_n 0, 1) := by decide +kernel
theorem d_K_happen_41 : decode b_K_happen 41 = .ok (.getfield 17, 3) := by decide +kernel
theorem d_K_happen_44 : decode b_K_happen 44 = .ok (.iload 6, 2) := by decide +kernel
theorem d_K_happen_46 : decode b_K_happen 46 = .ok (.aload_n 0, 1) := by decide +kernel
theorem d_K_happen_47 : decode b_K_happen 47 = .ok (.getfield 17, 3) := by decide +kernel
theorem d_K_happen_50 : decode b_K_happen 50 = .ok (.iload 7, 2) := by decide +kernel
theorem d_K_happen_52 : decode b_K_happen 52 = .ok (.iaload, 1) := by decide +kernel
theorem d_K_happen_53 : decode b_K_happen 53 = .ok (.iastore, 1) := by decide +kernel
theorem d_K_happen_54 : decode b_K_happen 54 = .ok (.aload_n 0, 1) := by decide +kernel
theorem d_K_happen_55 : decode b_K_happen 55 = .ok (.getfield 20, 3) := by decide +kernel
theorem d_K_happen_58 : decode b_K_happen 58 = .ok (.iload 6, 2) := by decide +kernel
theorem d_K_happen_60 : decode b_K_happen 60 = .ok (.aload_n 0, 1) := by decide +kernel
theorem d_K_happen_61 : decode b_K_happen 61 = .ok (.getfield 20, 3) := by decide +kernel
theorem d_K_happen_64 : decode b_K_happen 64 = .ok (.iload 7, 2) := by decide +kernel
theorem d_K_happen_66 : decode b_K_happen 66 = .ok (.iaload, 1) := by decide +kernel
theorem d_K_happen_67 : decode b_K_happen 67 = .ok (.iastore, 1) := by decide +kernel
theorem d_K_happen_68 : decode b_K_happen 68 = .ok (.aload_n 0, 1) := by decide +kernel
theorem d_K_happen_69 : decode b_K_happen 69 = .ok (.getfield 23, 3) := by decide +kernel
theorem d_K_happen_72 : decode b_K_happen 72 = .ok (.iload 6, 2) := by decide +kernel
theorem d_K_happen_74 : decode b_K_happen 74 = .ok (.aload_n 0, 1) := by decide +kernel
theorem d_K_happen_75 : decode b_K_happen 75 = .ok (.getfield 23, 3) := by decide +kernel
theorem d_K_happen_78 : decode b_K_happen 78 = .ok (.iload 7, 2) := by decide +kernel
theorem d_K_happen_80 : decode b_K_happen 80 = .ok (.iaload, 1) := by decide +kernel
theorem d_K_happen_81 : decode b_K_happen 81 = .ok (.iastore, 1) := by decide +kernel
theorem d_K_happen_82 : decode b_K_happen 82 = .ok (.iinc 6 1, 3) := by decide +kernel
theorem d_K_happen_85 : decode b_K_happen 85 = .ok (.iinc 7 1, 3) := by decide +kernel
theorem d_K_happen_88 : decode b_K_happen 88 = .ok (.goto (-82), 3) := by decide +kernel
theorem d_K_happen_91 : decode b_K_happen 91 = .ok (.aload_n 0, 1) := by decide +kernel
theorem d_K_happen_92 : decode b_K_happen 92 = .ok (.iload 6, 2) := by decide +kernel
theorem d_K_happen_94 : decode b_K_happen 94 = .ok (.putfield 58, 3) := by decide +kernel
theorem d_K_happen_97 : decode b_K_happen 97 = .ok (.iload 5, 2) := by decide +kernel
theorem d_K_happen_99 : decode b_K_happen 99 = .ok (.ifCond .le 97, 3) := by decide +kernel
theorem d_K_happen_102 : decode b_K_happen 102 = .ok (.aload_n 0, 1) := by decide +kernel
theorem d_K_happen_103 : decode b_K_happen 103 = .ok (.getfield 13, 3) := by decide +kernel
theorem d_K_happen_106 : decode b_K_happen 106 = .ok (.aload_n 0, 1) := by decide +kernel
theorem d_K_happen_107 : decode b_K_happen 107 = .ok (.getfield 58, 3) := by decide +kernel
theorem d_K_happen_110 : decode b_K_happen 110 = .ok (.iload_n 1, 1) := by decide +kernel
theorem d_K_happen_111 : decode b_K_happen 111 = .ok (.iastore, 1) := by decide +kernel
theorem d_K_happen_112 : decode b_K_happen 112 = .ok (.aload_n 0, 1) := by decide +kernel
theorem d_K_happen_113 : decode b_K_happen 113 = .ok (.getfield 17, 3) := by decide +kernel
theorem d_K_happen_116 : decode b_K_happen 116 = .ok (.aload_n 0, 1) := by decide +kernel
theorem d_K_happen_117 : decode b_K_happen 117 = .ok (.getfield 58, 3) := by decide +kernel
theorem d_K_happen_120 : decode b_K_happen 120 = .ok (.iload 4, 2) := by decide +kernel
theorem d_K_happen_122 : decode b_K_happen 122 = .ok (.iastore, 1) := by decide +kernel
theorem d_K_happen_123 : decode b_K_happen 123 = .ok (.aload_n 0, 1) := by decide +kernel
theorem d_K_happen_124 : decode b_K_happen 124 = .ok (.getfield 20, 3) := by decide +kernel
theorem d_K_happen_127 : decode b_K_happen 127 = .ok (.aload_n 0, 1) := by decide +kernel
theorem d_K_happen_128 : decode b_K_happen 128 = .ok (.getfield 58, 3) := by decide +kernel
theorem d_K_happen_131 : decode b_K_happen 131 = .ok (.iload 5, 2) := by decide +kernel
theorem d_K_happen_133 : decode b_K_happen 133 = .ok (.iastore, 1) := by decide +kernel
theorem d_K_happen_134 : decode b_K_happen 134 = .ok (.aload_n 0, 1) := by decide +kernel
theorem d_K_happen_135 : decode b_K_happen 135 = .ok (.getfield 23, 3) := by decide +kernel
theorem d_K_happen_138 : decode b_K_happen 138 = .ok (.aload_n 0, 1) := by decide +kernel
theorem d_K_happen_139 : decode b_K_happen 139 = .ok (.getfield 58, 3) := by decide +kernel
theorem d_K_happen_142 : decode b_K_happen 142 = .ok (.aload_n 0, 1) := by decide +kernel
theorem d_K_happen_143 : decode b_K_happen 143 = .ok (.getfield 54, 3) := by decide +kernel
theorem d_K_happen_146 : decode b_K_happen 146 = .ok (.iastore, 1) := by decide +kernel
theorem d_K_happen_147 : decode b_K_happen 147 = .ok (.aload_n 0, 1) := by decide +kernel
theorem d_K_happen_148 : decode b_K_happen 148 = .ok (.dup, 1) := by decide +kernel
theorem d_K_happen_149 : decode b_K_happen 149 = .ok (.getfield 58, 3) := by decide +kernel
theorem d_K_happen_152 : decode b_K_happen 152 = .ok (.iconst 1, 1) := by decide +kernel
theorem d_K_happen_153 : decode b_K_happen 153 = .ok (.iadd, 1) := by decide +kernel
theorem d_K_happen_154 : decode b_K_happen 154 = .ok (.putfield 58, 3) := by decide +kernel
theorem d_K_happen_157 : decode b_K_happen 157 = .ok (.iconst 0, 1) := by decide +kernel
theorem d_K_happen_158 : decode b_K_happen 158 = .ok (.istore 7, 2) := by decide +kernel
theorem d_K_happen_160 : decode b_K_happen 160 = .ok (.iload 7, 2) := by decide +kernel
theorem d_K_happen_162 : decode b_K_happen 162 = .ok (.aload_n 0, 1) := by decide +kernel
theorem d_K_happen_163 : decode b_K_happen 163 = .ok (.getfield 54, 3) := by decide +kernel
theorem d_K_happen_166 : decode b_K_happen 166 = .ok (.if_icmp .ge 30, 3) := by decide +kernel
theorem d_K_happen_169 : decode b_K_happen 169 = .ok (.aload_n 0, 1) := by decide +kernel
theorem d_K_happen_170 : decode b_K_happen 170 = .ok (.getfield 30, 3) := by decide +kernel
theorem d_K_happen_173 : decode b_K_happen 173 = .ok (.sipush 4096, 3) := by decide +kernel
theorem d_K_happen_176 : decode b_K_happen 176 = .ok (.iload 4, 2) := by decide +kernel
theorem d_K_happen_178 : decode b_K_happen 178 = .ok (.imul, 1) := by decide +kernel
theorem d_K_happen_179 : decode b_K_happen 179 = .ok (.iload 7, 2) := by decide +kernel
theorem d_K_happen_181 : decode b_K_happen 181 = .ok (.iadd, 1) := by decide +kernel
theorem d_K_happen_182 : decode b_K_happen 182 = .ok (.aload_n 0, 1) := by decide +kernel
theorem d_K_happen_183 : decode b_K_happen 183 = .ok (.getfield 41, 3) := by decide +kernel
theorem d_K_happen_186 : decode b_K_happen 186 = .ok (.iload 7, 2) := by decide +kernel
theorem d_K_happen_188 : decode b_K_happen 188 = .ok (.baload, 1) := by decide +kernel
theorem d_K_happen_189 : decode b_K_happen 189 = .ok (.bastore, 1) := by decide +kernel
theorem d_K_happen_190 : decode b_K_happen 190 = .ok (.iinc 7 1, 3) := by decide +kernel
theorem d_K_happen_193 : decode b_K_happen 193 = .ok (.goto (-33), 3) := by decide +kernel
theorem d_K_happen_196 : decode b_K_happen 196 = .ok (.iconst 0, 1) := by decide +kernel
theorem d_K_happen_197 : decode b_K_happen 197 = .ok (.istore 7, 2) := by decide +kernel
theorem d_K_happen_199 : decode b_K_happen 199 = .ok (.iload 7, 2) := by decide +kernel
theorem d_K_happen_201 : decode b_K_happen 201 = .ok (.bipush 24, 2) := by decide +kernel
theorem d_K_happen_203 : decode b_K_happen 203 = .ok (.if_icmp .ge 23, 3) := by decide +kernel
theorem d_K_happen_206 : decode b_K_happen 206 = .ok (.aload_n 0, 1) := by decide +kernel
theorem d_K_happen_207 : decode b_K_happen 207 = .ok (.getfield 26, 3) := by decide +kernel
theorem d_K_happen_210 : decode b_K_happen 210 = .ok (.iload 7, 2) := by decide +kernel
theorem d_K_happen_212 : decode b_K_happen 212 = .ok (.aload_n 0, 1) := by decide +kernel
theorem d_K_happen_213 : decode b_K_happen 213 = .ok (.getfield 38, 3) := by decide +kernel
theorem d_K_happen_216 : decode b_K_happen 216 = .ok (.iload 7, 2) := by decide +kernel
theorem d_K_happen_218 : decode b_K_happen 218 = .ok (.iaload, 1) := by decide +kernel
theorem d_K_happen_219 : decode b_K_happen 219 = .ok (.iastore, 1) := by decide +kernel
theorem d_K_happen_220 : decode b_K_happen 220 = .ok (.iinc 7 1, 3) := by decide +kernel
theorem d_K_happen_223 : decode b_K_happen 223 = .ok (.goto (-24), 3) := by decide +kernel
theorem d_K_happen_226 : decode b_K_happen 226 = .ok (.aload_n 0, 1) := by decide +kernel
theorem d_K_happen_227 : decode b_K_happen 227 = .ok (.dup, 1) := by decide +kernel
theorem d_K_happen_228 : decode b_K_happen 228 = .ok (.getfield 68, 3) := by decide +kernel
theorem d_K_happen_231 : decode b_K_happen 231 = .ok (.iconst 1, 1) := by decide +kernel
theorem d_K_happen_232 : decode b_K_happen 232 = .ok (.iadd, 1) := by decide +kernel
theorem d_K_happen_233 : decode b_K_happen 233 = .ok (.putfield 68, 3) := by decide +kernel
theorem d_K_happen_236 : decode b_K_happen 236 = .ok (.return_, 1) := by decide +kernel
theorem d_K_fail_0 : decode b_K_fail 0 = .ok (.aload_n 0, 1) := by decide +kernel
theorem d_K_fail_1 : decode b_K_fail 1 = .ok (.iconst 1, 1) := by decide +kernel
theorem d_K_fail_2 : decode b_K_fail 2 = .ok (.putfield 50, 3) := by decide +kernel
theorem d_K_fail_5 : decode b_K_fail 5 = .ok (.aload_n 0, 1) := by decide +kernel
theorem d_K_fail_6 : decode b_K_fail 6 = .ok (.iconst (-1), 1) := by decide +kernel
theorem d_K_fail_7 : decode b_K_fail 7 = .ok (.putfield 7, 3) := by decide +kernel
theorem d_K_fail_10 : decode b_K_fail 10 = .ok (.aload_n 0, 1) := by decide +kernel
theorem d_K_fail_11 : decode b_K_fail 11 = .ok (.iconst 0, 1) := by decide +kernel
theorem d_K_fail_12 : decode b_K_fail 12 = .ok (.putfield 54, 3) := by decide +kernel
theorem d_K_fail_15 : decode b_K_fail 15 = .ok (.return_, 1) := by decide +kernel
theorem d_K_extent_0 : decode b_K_extent 0 = .ok (.aload_n 0, 1) := by decide +kernel
theorem d_K_extent_1 : decode b_K_extent 1 = .ok (.aload_n 0, 1) := by decide +kernel
theorem d_K_extent_2 : decode b_K_extent 2 = .ok (.iload_n 1, 1) := by decide +kernel
theorem d_K_extent_3 : decode b_K_extent 3 = .ok (.invokevirtual 85, 3) := by decide +kernel
theorem d_K_extent_6 : decode b_K_extent 6 = .ok (.ifCond .eq 16, 3) := by decide +kernel
theorem d_K_extent_9 : decode b_K_extent 9 = .ok (.iload_n 2, 1) := by decide +kernel
theorem d_K_extent_10 : decode b_K_extent 10 = .ok (.ifCond .lt 12, 3) := by decide +kernel
theorem d_K_extent_13 : decode b_K_extent 13 = .ok (.iload_n 2, 1) := by decide +kernel
theorem d_K_extent_14 : decode b_K_extent 14 = .ok (.iconst 3, 1) := by decide +kernel
theorem d_K_extent_15 : decode b_K_extent 15 = .ok (.if_icmp .gt 7, 3) := by decide +kernel
theorem d_K_extent_18 : decode b_K_extent 18 = .ok (.iconst 0, 1) := by decide +kernel
theorem d_K_extent_19 : decode b_K_extent 19 = .ok (.goto 4, 3) := by decide +kernel
theorem d_K_extent_22 : decode b_K_extent 22 = .ok (.iconst 1, 1) := by decide +kernel
theorem d_K_extent_23 : decode b_K_extent 23 = .ok (.putfield 47, 3) := by decide +kernel
theorem d_K_extent_26 : decode b_K_extent 26 = .ok (.aload_n 0, 1) := by decide +kernel
theorem d_K_extent_27 : decode b_K_extent 27 = .ok (.getfield 47, 3) := by decide +kernel
theorem d_K_extent_30 : decode b_K_extent 30 = .ok (.ifCond .le 5, 3) := by decide +kernel
theorem d_K_extent_33 : decode b_K_extent 33 = .ok (.iconst 0, 1) := by decide +kernel
theorem d_K_extent_34 : decode b_K_extent 34 = .ok (.ireturn, 1) := by decide +kernel
theorem d_K_extent_35 : decode b_K_extent 35 = .ok (.iload_n 2, 1) := by decide +kernel
theorem d_K_extent_36 : decode b_K_extent 36 = .ok (.ifCond .ne 12, 3) := by decide +kernel
theorem d_K_extent_39 : decode b_K_extent 39 = .ok (.aload_n 0, 1) := by decide +kernel
theorem d_K_extent_40 : decode b_K_extent 40 = .ok (.getfield 13, 3) := by decide +kernel
theorem d_K_extent_43 : decode b_K_extent 43 = .ok (.iload_n 1, 1) := by decide +kernel
theorem d_K_extent_44 : decode b_K_extent 44 = .ok (.iaload, 1) := by decide +kernel
theorem d_K_extent_45 : decode b_K_extent 45 = .ok (.goto 37, 3) := by decide +kernel
theorem d_K_extent_48 : decode b_K_extent 48 = .ok (.iload_n 2, 1) := by decide +kernel
theorem d_K_extent_49 : decode b_K_extent 49 = .ok (.iconst 1, 1) := by decide +kernel
theorem d_K_extent_50 : decode b_K_extent 50 = .ok (.if_icmp .ne 12, 3) := by decide +kernel
theorem d_K_extent_53 : decode b_K_extent 53 = .ok (.aload_n 0, 1) := by decide +kernel
theorem d_K_extent_54 : decode b_K_extent 54 = .ok (.getfield 17, 3) := by decide +kernel
theorem d_K_extent_57 : decode b_K_extent 57 = .ok (.iload_n 1, 1) := by decide +kernel
theorem d_K_extent_58 : decode b_K_extent 58 = .ok (.iaload, 1) := by decide +kernel
theorem d_K_extent_59 : decode b_K_extent 59 = .ok (.goto 23, 3) := by decide +kernel
theorem d_K_extent_62 : decode b_K_extent 62 = .ok (.iload_n 2, 1) := by decide +kernel
theorem d_K_extent_63 : decode b_K_extent 63 = .ok (.iconst 2, 1) := by decide +kernel
theorem d_K_extent_64 : decode b_K_extent 64 = .ok (.if_icmp .ne 12, 3) := by decide +kernel
theorem d_K_extent_67 : decode b_K_extent 67 = .ok (.aload_n 0, 1) := by decide +kernel
theorem d_K_extent_68 : decode b_K_extent 68 = .ok (.getfield 20, 3) := by decide +kernel
theorem d_K_extent_71 : decode b_K_extent 71 = .ok (.iload_n 1, 1) := by decide +kernel
theorem d_K_extent_72 : decode b_K_extent 72 = .ok (.iaload, 1) := by decide +kernel
theorem d_K_extent_73 : decode b_K_extent 73 = .ok (.goto 9, 3) := by decide +kernel
theorem d_K_extent_76 : decode b_K_extent 76 = .ok (.aload_n 0, 1) := by decide +kernel
theorem d_K_extent_77 : decode b_K_extent 77 = .ok (.getfield 23, 3) := by decide +kernel
theorem d_K_extent_80 : decode b_K_extent 80 = .ok (.iload_n 1, 1) := by decide +kernel
theorem d_K_extent_81 : decode b_K_extent 81 = .ok (.iaload, 1) := by decide +kernel
theorem d_K_extent_82 : decode b_K_extent 82 = .ok (.ireturn, 1) := by decide +kernel
theorem d_K_isExtent_0 : decode b_K_isExtent 0 = .ok (.aload_n 0, 1) := by decide +kernel
theorem d_K_isExtent_1 : decode b_K_isExtent 1 = .ok (.getfield 50, 3) := by decide +kernel
theorem d_K_isExtent_4 : decode b_K_isExtent 4 = .ok (.ifCond .ne 19, 3) := by decide +kernel
theorem d_K_isExtent_7 : decode b_K_isExtent 7 = .ok (.iload_n 1, 1) := by decide +kernel
theorem d_K_isExtent_8 : decode b_K_isExtent 8 = .ok (.ifCond .lt 15, 3) := by decide +kernel
theorem d_K_isExtent_11 : decode b_K_isExtent 11 = .ok (.iload_n 1, 1) := by decide +kernel
theorem d_K_isExtent_12 : decode b_K_isExtent 12 = .ok (.aload_n 0, 1) := by decide +kernel
theorem d_K_isExtent_13 : decode b_K_isExtent 13 = .ok (.getfield 58, 3) := by decide +kernel
theorem d_K_isExtent_16 : decode b_K_isExtent 16 = .ok (.if_icmp .ge 7, 3) := by decide +kernel
theorem d_K_isExtent_19 : decode b_K_isExtent 19 = .ok (.iconst 1, 1) := by decide +kernel
theorem d_K_isExtent_20 : decode b_K_isExtent 20 = .ok (.goto 4, 3) := by decide +kernel
theorem d_K_isExtent_23 : decode b_K_isExtent 23 = .ok (.iconst 0, 1) := by decide +kernel
theorem d_K_isExtent_24 : decode b_K_isExtent 24 = .ok (.ireturn, 1) := by decide +kernel
theorem d_K_byteAt_0 : decode b_K_byteAt 0 = .ok (.aload_n 0, 1) := by decide +kernel
theorem d_K_byteAt_1 : decode b_K_byteAt 1 = .ok (.aload_n 0, 1) := by decide +kernel
theorem d_K_byteAt_2 : decode b_K_byteAt 2 = .ok (.iload_n 1, 1) := by decide +kernel
theorem d_K_byteAt_3 : decode b_K_byteAt 3 = .ok (.invokevirtual 85, 3) := by decide +kernel
theorem d_K_byteAt_6 : decode b_K_byteAt 6 = .ok (.ifCond .eq 21, 3) := by decide +kernel
theorem d_K_byteAt_9 : decode b_K_byteAt 9 = .ok (.iload_n 2, 1) := by decide +kernel
theorem d_K_byteAt_10 : decode b_K_byteAt 10 = .ok (.ifCond .lt 17, 3) := by decide +kernel
theorem d_K_byteAt_13 : decode b_K_byteAt 13 = .ok (.iload_n 2, 1) := by decide +kernel
theorem d_K_byteAt_14 : decode b_K_byteAt 14 = .ok (.aload_n 0, 1) := by decide +kernel
theorem d_K_byteAt_15 : decode b_K_byteAt 15 = .ok (.getfield 23, 3) := by decide +kernel
theorem d_K_byteAt_18 : decode b_K_byteAt 18 = .ok (.iload_n 1, 1) := by decide +kernel
theorem d_K_byteAt_19 : decode b_K_byteAt 19 = .ok (.iaload, 1) := by decide +kernel
theorem d_K_byteAt_20 : decode b_K_byteAt 20 = .ok (.if_icmp .ge 7, 3) := by decide +kernel
theorem d_K_byteAt_23 : decode b_K_byteAt 23 = .ok (.iconst 0, 1) := by decide +kernel
theorem d_K_byteAt_24 : decode b_K_byteAt 24 = .ok (.goto 4, 3) := by decide +kernel
theorem d_K_byteAt_27 : decode b_K_byteAt 27 = .ok (.iconst 1, 1) := by decide +kernel
theorem d_K_byteAt_28 : decode b_K_byteAt 28 = .ok (.putfield 47, 3) := by decide +kernel
theorem d_K_byteAt_31 : decode b_K_byteAt 31 = .ok (.aload_n 0, 1) := by decide +kernel
theorem d_K_byteAt_32 : decode b_K_byteAt 32 = .ok (.getfield 47, 3) := by decide +kernel
theorem d_K_byteAt_35 : decode b_K_byteAt 35 = .ok (.ifCond .le 7, 3) := by decide +kernel
theorem d_K_byteAt_38 : decode b_K_byteAt 38 = .ok (.iconst 0, 1) := by decide +kernel
theorem d_K_byteAt_39 : decode b_K_byteAt 39 = .ok (.goto 24, 3) := by decide +kernel
theorem d_K_byteAt_42 : decode b_K_byteAt 42 = .ok (.aload_n 0, 1) := by decide +kernel
theorem d_K_byteAt_43 : decode b_K_byteAt 43 = .ok (.getfield 30, 3) := by decide +kernel
theorem d_K_byteAt_46 : decode b_K_byteAt 46 = .ok (.sipush 4096, 3) := by decide +kernel
theorem d_K_byteAt_49 : decode b_K_byteAt 49 = .ok (.aload_n 0, 1) := by decide +kernel
theorem d_K_byteAt_50 : decode b_K_byteAt 50 = .ok (.getfield 17, 3) := by decide +kernel
theorem d_K_byteAt_53 : decode b_K_byteAt 53 = .ok (.iload_n 1, 1) := by decide +kernel
theorem d_K_byteAt_54 : decode b_K_byteAt 54 = .ok (.iaload, 1) := by decide +kernel
theorem d_K_byteAt_55 : decode b_K_byteAt 55 = .ok (.imul, 1) := by decide +kernel
theorem d_K_byteAt_56 : decode b_K_byteAt 56 = .ok (.iload_n 2, 1) := by decide +kernel
theorem d_K_byteAt_57 : decode b_K_byteAt 57 = .ok (.iadd, 1) := by decide +kernel
theorem d_K_byteAt_58 : decode b_K_byteAt 58 = .ok (.baload, 1) := by decide +kernel
theorem d_K_byteAt_59 : decode b_K_byteAt 59 = .ok (.sipush 255, 3) := by decide +kernel
theorem d_K_byteAt_62 : decode b_K_byteAt 62 = .ok (.iand, 1) := by decide +kernel
theorem d_K_byteAt_63 : decode b_K_byteAt 63 = .ok (.ireturn, 1) := by decide +kernel
theorem d_K_crash_0 : decode b_K_crash 0 = .ok (.aload_n 0, 1) := by decide +kernel
theorem d_K_crash_1 : decode b_K_crash 1 = .ok (.iload_n 1, 1) := by decide +kernel
theorem d_K_crash_2 : decode b_K_crash 2 = .ok (.iconst (-1), 1) := by decide +kernel
theorem d_K_crash_3 : decode b_K_crash 3 = .ok (.if_icmp .lt 10, 3) := by decide +kernel
theorem d_K_crash_6 : decode b_K_crash 6 = .ok (.iload_n 1, 1) := by decide +kernel
theorem d_K_crash_7 : decode b_K_crash 7 = .ok (.sipush 1000, 3) := by decide +kernel
theorem d_K_crash_10 : decode b_K_crash 10 = .ok (.if_icmp .le 7, 3) := by decide +kernel
theorem d_K_crash_13 : decode b_K_crash 13 = .ok (.iconst 1, 1) := by decide +kernel
theorem d_K_crash_14 : decode b_K_crash 14 = .ok (.goto 15, 3) := by decide +kernel
theorem d_K_crash_17 : decode b_K_crash 17 = .ok (.aload_n 0, 1) := by decide +kernel
theorem d_K_crash_18 : decode b_K_crash 18 = .ok (.getfield 50, 3) := by decide +kernel
theorem d_K_crash_21 : decode b_K_crash 21 = .ok (.ifCond .eq 7, 3) := by decide +kernel
theorem d_K_crash_24 : decode b_K_crash 24 = .ok (.iconst 2, 1) := by decide +kernel
theorem d_K_crash_25 : decode b_K_crash 25 = .ok (.goto 4, 3) := by decide +kernel
theorem d_K_crash_28 : decode b_K_crash 28 = .ok (.iconst 0, 1) := by decide +kernel
theorem d_K_crash_29 : decode b_K_crash 29 = .ok (.putfield 47, 3) := by decide +kernel
theorem d_K_crash_32 : decode b_K_crash 32 = .ok (.aload_n 0, 1) := by decide +kernel
theorem d_K_crash_33 : decode b_K_crash 33 = .ok (.getfield 47, 3) := by decide +kernel
theorem d_K_crash_36 : decode b_K_crash 36 = .ok (.ifCond .ne 16, 3) := by decide +kernel
theorem d_K_crash_39 : decode b_K_crash 39 = .ok (.aload_n 0, 1) := by decide +kernel
theorem d_K_crash_40 : decode b_K_crash 40 = .ok (.iload_n 1, 1) := by decide +kernel
theorem d_K_crash_41 : decode b_K_crash 41 = .ok (.putfield 7, 3) := by decide +kernel
theorem d_K_crash_44 : decode b_K_crash 44 = .ok (.iload_n 1, 1) := by decide +kernel
theorem d_K_crash_45 : decode b_K_crash 45 = .ok (.ifCond .ne 7, 3) := by decide +kernel
theorem d_K_crash_48 : decode b_K_crash 48 = .ok (.aload_n 0, 1) := by decide +kernel
theorem d_K_crash_49 : decode b_K_crash 49 = .ok (.invokevirtual 82, 3) := by decide +kernel
theorem d_K_crash_52 : decode b_K_crash 52 = .ok (.return_, 1) := by decide +kernel
theorem d_K_recover_0 : decode b_K_recover 0 = .ok (.aload_n 0, 1) := by decide +kernel
theorem d_K_recover_1 : decode b_K_recover 1 = .ok (.iconst 0, 1) := by decide +kernel
theorem d_K_recover_2 : decode b_K_recover 2 = .ok (.putfield 47, 3) := by decide +kernel
theorem d_K_recover_5 : decode b_K_recover 5 = .ok (.aload_n 0, 1) := by decide +kernel
theorem d_K_recover_6 : decode b_K_recover 6 = .ok (.iconst 0, 1) := by decide +kernel
theorem d_K_recover_7 : decode b_K_recover 7 = .ok (.putfield 50, 3) := by decide +kernel
theorem d_K_recover_10 : decode b_K_recover 10 = .ok (.aload_n 0, 1) := by decide +kernel
theorem d_K_recover_11 : decode b_K_recover 11 = .ok (.iconst (-1), 1) := by decide +kernel
theorem d_K_recover_12 : decode b_K_recover 12 = .ok (.putfield 7, 3) := by decide +kernel
theorem d_K_recover_15 : decode b_K_recover 15 = .ok (.aload_n 0, 1) := by decide +kernel
theorem d_K_recover_16 : decode b_K_recover 16 = .ok (.iconst 0, 1) := by decide +kernel
theorem d_K_recover_17 : decode b_K_recover 17 = .ok (.putfield 54, 3) := by decide +kernel
theorem d_K_recover_20 : decode b_K_recover 20 = .ok (.iconst 0, 1) := by decide +kernel
theorem d_K_recover_21 : decode b_K_recover 21 = .ok (.istore_n 1, 1) := by decide +kernel
theorem d_K_recover_22 : decode b_K_recover 22 = .ok (.iload_n 1, 1) := by decide +kernel
theorem d_K_recover_23 : decode b_K_recover 23 = .ok (.bipush 24, 2) := by decide +kernel
theorem d_K_recover_25 : decode b_K_recover 25 = .ok (.if_icmp .ge 21, 3) := by decide +kernel
theorem d_K_recover_28 : decode b_K_recover 28 = .ok (.aload_n 0, 1) := by decide +kernel
theorem d_K_recover_29 : decode b_K_recover 29 = .ok (.getfield 38, 3) := by decide +kernel
theorem d_K_recover_32 : decode b_K_recover 32 = .ok (.iload_n 1, 1) := by decide +kernel
theorem d_K_recover_33 : decode b_K_recover 33 = .ok (.aload_n 0, 1) := by decide +kernel
theorem d_K_recover_34 : decode b_K_recover 34 = .ok (.getfield 26, 3) := by decide +kernel
theorem d_K_recover_37 : decode b_K_recover 37 = .ok (.iload_n 1, 1) := by decide +kernel
theorem d_K_recover_38 : decode b_K_recover 38 = .ok (.iaload, 1) := by decide +kernel
theorem d_K_recover_39 : decode b_K_recover 39 = .ok (.iastore, 1) := by decide +kernel
theorem d_K_recover_40 : decode b_K_recover 40 = .ok (.iinc 1 1, 3) := by decide +kernel
theorem d_K_recover_43 : decode b_K_recover 43 = .ok (.goto (-21), 3) := by decide +kernel
theorem d_K_recover_46 : decode b_K_recover 46 = .ok (.aload_n 0, 1) := by decide +kernel
theorem d_K_recover_47 : decode b_K_recover 47 = .ok (.getfield 58, 3) := by decide +kernel
theorem d_K_recover_50 : decode b_K_recover 50 = .ok (.ireturn, 1) := by decide +kernel
theorem d_K_isDown_0 : decode b_K_isDown 0 = .ok (.aload_n 0, 1) := by decide +kernel
theorem d_K_isDown_1 : decode b_K_isDown 1 = .ok (.iconst 0, 1) := by decide +kernel
theorem d_K_isDown_2 : decode b_K_isDown 2 = .ok (.putfield 47, 3) := by decide +kernel
theorem d_K_isDown_5 : decode b_K_isDown 5 = .ok (.aload_n 0, 1) := by decide +kernel
theorem d_K_isDown_6 : decode b_K_isDown 6 = .ok (.getfield 50, 3) := by decide +kernel
theorem d_K_isDown_9 : decode b_K_isDown 9 = .ok (.ireturn, 1) := by decide +kernel
theorem d_K_writes_0 : decode b_K_writes 0 = .ok (.aload_n 0, 1) := by decide +kernel
theorem d_K_writes_1 : decode b_K_writes 1 = .ok (.iconst 0, 1) := by decide +kernel
theorem d_K_writes_2 : decode b_K_writes 2 = .ok (.putfield 47, 3) := by decide +kernel
theorem d_K_writes_5 : decode b_K_writes 5 = .ok (.aload_n 0, 1) := by decide +kernel
theorem d_K_writes_6 : decode b_K_writes 6 = .ok (.getfield 75, 3) := by decide +kernel
theorem d_K_writes_9 : decode b_K_writes 9 = .ok (.ireturn, 1) := by decide +kernel
theorem d_K_count_0 : decode b_K_count 0 = .ok (.aload_n 0, 1) := by decide +kernel
theorem d_K_count_1 : decode b_K_count 1 = .ok (.iload_n 1, 1) := by decide +kernel
theorem d_K_count_2 : decode b_K_count 2 = .ok (.ifCond .lt 8, 3) := by decide +kernel
theorem d_K_count_5 : decode b_K_count 5 = .ok (.iload_n 1, 1) := by decide +kernel
theorem d_K_count_6 : decode b_K_count 6 = .ok (.iconst 3, 1) := by decide +kernel
theorem d_K_count_7 : decode b_K_count 7 = .ok (.if_icmp .le 7, 3) := by decide +kernel
theorem d_K_count_10 : decode b_K_count 10 = .ok (.iconst 1, 1) := by decide +kernel
theorem d_K_count_11 : decode b_K_count 11 = .ok (.goto 15, 3) := by decide +kernel
theorem d_K_count_14 : decode b_K_count 14 = .ok (.aload_n 0, 1) := by decide +kernel
theorem d_K_count_15 : decode b_K_count 15 = .ok (.getfield 50, 3) := by decide +kernel
theorem d_K_count_18 : decode b_K_count 18 = .ok (.ifCond .eq 7, 3) := by decide +kernel
theorem d_K_count_21 : decode b_K_count 21 = .ok (.iconst 2, 1) := by decide +kernel
theorem d_K_count_22 : decode b_K_count 22 = .ok (.goto 4, 3) := by decide +kernel
theorem d_K_count_25 : decode b_K_count 25 = .ok (.iconst 0, 1) := by decide +kernel
theorem d_K_count_26 : decode b_K_count 26 = .ok (.putfield 47, 3) := by decide +kernel
theorem d_K_count_29 : decode b_K_count 29 = .ok (.aload_n 0, 1) := by decide +kernel
theorem d_K_count_30 : decode b_K_count 30 = .ok (.getfield 47, 3) := by decide +kernel
theorem d_K_count_33 : decode b_K_count 33 = .ok (.ifCond .le 5, 3) := by decide +kernel
theorem d_K_count_36 : decode b_K_count 36 = .ok (.iconst 0, 1) := by decide +kernel
theorem d_K_count_37 : decode b_K_count 37 = .ok (.ireturn, 1) := by decide +kernel
theorem d_K_count_38 : decode b_K_count 38 = .ok (.iload_n 1, 1) := by decide +kernel
theorem d_K_count_39 : decode b_K_count 39 = .ok (.iconst 1, 1) := by decide +kernel
theorem d_K_count_40 : decode b_K_count 40 = .ok (.if_icmp .ne 44, 3) := by decide +kernel
theorem d_K_count_43 : decode b_K_count 43 = .ok (.aload_n 0, 1) := by decide +kernel
theorem d_K_count_44 : decode b_K_count 44 = .ok (.invokevirtual 61, 3) := by decide +kernel
theorem d_K_count_47 : decode b_K_count 47 = .ok (.iconst 0, 1) := by decide +kernel
theorem d_K_count_48 : decode b_K_count 48 = .ok (.istore_n 2, 1) := by decide +kernel
theorem d_K_count_49 : decode b_K_count 49 = .ok (.iconst 0, 1) := by decide +kernel
theorem d_K_count_50 : decode b_K_count 50 = .ok (.istore_n 3, 1) := by decide +kernel
theorem d_K_count_51 : decode b_K_count 51 = .ok (.iload_n 3, 1) := by decide +kernel
theorem d_K_count_52 : decode b_K_count 52 = .ok (.aload_n 0, 1) := by decide +kernel
theorem d_K_count_53 : decode b_K_count 53 = .ok (.getfield 44, 3) := by decide +kernel
theorem d_K_count_56 : decode b_K_count 56 = .ok (.if_icmp .ge 26, 3) := by decide +kernel
theorem d_K_count_59 : decode b_K_count 59 = .ok (.iload_n 2, 1) := by decide +kernel
theorem d_K_count_60 : decode b_K_count 60 = .ok (.aload_n 0, 1) := by decide +kernel
theorem d_K_count_61 : decode b_K_count 61 = .ok (.getfield 34, 3) := by decide +kernel
theorem d_K_count_64 : decode b_K_count 64 = .ok (.iload_n 3, 1) := by decide +kernel
theorem d_K_count_65 : decode b_K_count 65 = .ok (.baload, 1) := by decide +kernel
theorem d_K_count_66 : decode b_K_count 66 = .ok (.ifCond .eq 7, 3) := by decide +kernel
theorem d_K_count_69 : decode b_K_count 69 = .ok (.iconst 0, 1) := by decide +kernel
theorem d_K_count_70 : decode b_K_count 70 = .ok (.goto 4, 3) := by decide +kernel
theorem d_K_count_73 : decode b_K_count 73 = .ok (.iconst 1, 1) := by decide +kernel
theorem d_K_count_74 : decode b_K_count 74 = .ok (.iadd, 1) := by decide +kernel
theorem d_K_count_75 : decode b_K_count 75 = .ok (.istore_n 2, 1) := by decide +kernel
theorem d_K_count_76 : decode b_K_count 76 = .ok (.iinc 3 1, 3) := by decide +kernel
theorem d_K_count_79 : decode b_K_count 79 = .ok (.goto (-28), 3) := by decide +kernel
theorem d_K_count_82 : decode b_K_count 82 = .ok (.iload_n 2, 1) := by decide +kernel
theorem d_K_count_83 : decode b_K_count 83 = .ok (.ireturn, 1) := by decide +kernel
theorem d_K_count_84 : decode b_K_count 84 = .ok (.iload_n 1, 1) := by decide +kernel
theorem d_K_count_85 : decode b_K_count 85 = .ok (.ifCond .ne 10, 3) := by decide +kernel
theorem d_K_count_88 : decode b_K_count 88 = .ok (.aload_n 0, 1) := by decide +kernel
theorem d_K_count_89 : decode b_K_count 89 = .ok (.getfield 58, 3) := by decide +kernel
theorem d_K_count_92 : decode b_K_count 92 = .ok (.goto 19, 3) := by decide +kernel
theorem d_K_count_95 : decode b_K_count 95 = .ok (.iload_n 1, 1) := by decide +kernel
theorem d_K_count_96 : decode b_K_count 96 = .ok (.iconst 2, 1) := by decide +kernel
theorem d_K_count_97 : decode b_K_count 97 = .ok (.if_icmp .ne 10, 3) := by decide +kernel
theorem d_K_count_100 : decode b_K_count 100 = .ok (.aload_n 0, 1) := by decide +kernel
theorem d_K_count_101 : decode b_K_count 101 = .ok (.getfield 54, 3) := by decide +kernel
theorem d_K_count_104 : decode b_K_count 104 = .ok (.goto 7, 3) := by decide +kernel
theorem d_K_count_107 : decode b_K_count 107 = .ok (.aload_n 0, 1) := by decide +kernel
theorem d_K_count_108 : decode b_K_count 108 = .ok (.getfield 68, 3) := by decide +kernel
theorem d_K_count_111 : decode b_K_count 111 = .ok (.ireturn, 1) := by decide +kernel
theorem d_K_doubled_0 : decode b_K_doubled 0 = .ok (.aload_n 0, 1) := by decide +kernel
theorem d_K_doubled_1 : decode b_K_doubled 1 = .ok (.aload_n 0, 1) := by decide +kernel
theorem d_K_doubled_2 : decode b_K_doubled 2 = .ok (.getfield 50, 3) := by decide +kernel
theorem d_K_doubled_5 : decode b_K_doubled 5 = .ok (.ifCond .eq 7, 3) := by decide +kernel
theorem d_K_doubled_8 : decode b_K_doubled 8 = .ok (.iconst 1, 1) := by decide +kernel
theorem d_K_doubled_9 : decode b_K_doubled 9 = .ok (.goto 4, 3) := by decide +kernel
theorem d_K_doubled_12 : decode b_K_doubled 12 = .ok (.iconst 0, 1) := by decide +kernel
theorem d_K_doubled_13 : decode b_K_doubled 13 = .ok (.putfield 47, 3) := by decide +kernel
theorem d_K_doubled_16 : decode b_K_doubled 16 = .ok (.aload_n 0, 1) := by decide +kernel
theorem d_K_doubled_17 : decode b_K_doubled 17 = .ok (.getfield 47, 3) := by decide +kernel
theorem d_K_doubled_20 : decode b_K_doubled 20 = .ok (.ifCond .le 5, 3) := by decide +kernel
theorem d_K_doubled_23 : decode b_K_doubled 23 = .ok (.iconst 0, 1) := by decide +kernel
theorem d_K_doubled_24 : decode b_K_doubled 24 = .ok (.ireturn, 1) := by decide +kernel
theorem d_K_doubled_25 : decode b_K_doubled 25 = .ok (.iconst 0, 1) := by decide +kernel
theorem d_K_doubled_26 : decode b_K_doubled 26 = .ok (.istore_n 1, 1) := by decide +kernel
theorem d_K_doubled_27 : decode b_K_doubled 27 = .ok (.iconst 2, 1) := by decide +kernel
theorem d_K_doubled_28 : decode b_K_doubled 28 = .ok (.istore_n 2, 1) := by decide +kernel
theorem d_K_doubled_29 : decode b_K_doubled 29 = .ok (.aload_n 0, 1) := by decide +kernel
theorem d_K_doubled_30 : decode b_K_doubled 30 = .ok (.invokevirtual 61, 3) := by decide +kernel
theorem d_K_doubled_33 : decode b_K_doubled 33 = .ok (.iconst 0, 1) := by decide +kernel
theorem d_K_doubled_34 : decode b_K_doubled 34 = .ok (.istore_n 3, 1) := by decide +kernel
theorem d_K_doubled_35 : decode b_K_doubled 35 = .ok (.iload_n 3, 1) := by decide +kernel
theorem d_K_doubled_36 : decode b_K_doubled 36 = .ok (.aload_n 0, 1) := by decide +kernel
theorem d_K_doubled_37 : decode b_K_doubled 37 = .ok (.getfield 58, 3) := by decide +kernel
theorem d_K_doubled_40 : decode b_K_doubled 40 = .ok (.if_icmp .ge 18, 3) := by decide +kernel
theorem d_K_doubled_43 : decode b_K_doubled 43 = .ok (.iload_n 1, 1) := by decide +kernel
theorem d_K_doubled_44 : decode b_K_doubled 44 = .ok (.aload_n 0, 1) := by decide +kernel
theorem d_K_doubled_45 : decode b_K_doubled 45 = .ok (.getfield 20, 3) := by decide +kernel
theorem d_K_doubled_48 : decode b_K_doubled 48 = .ok (.iload_n 3, 1) := by decide +kernel
theorem d_K_doubled_49 : decode b_K_doubled 49 = .ok (.iaload, 1) := by decide +kernel
theorem d_K_doubled_50 : decode b_K_doubled 50 = .ok (.iadd, 1) := by decide +kernel
theorem d_K_doubled_51 : decode b_K_doubled 51 = .ok (.istore_n 1, 1) := by decide +kernel
theorem d_K_doubled_52 : decode b_K_doubled 52 = .ok (.iinc 3 1, 3) := by decide +kernel
theorem d_K_doubled_55 : decode b_K_doubled 55 = .ok (.goto (-20), 3) := by decide +kernel
theorem d_K_doubled_58 : decode b_K_doubled 58 = .ok (.iconst 2, 1) := by decide +kernel
theorem d_K_doubled_59 : decode b_K_doubled 59 = .ok (.istore_n 3, 1) := by decide +kernel
theorem d_K_doubled_60 : decode b_K_doubled 60 = .ok (.iload_n 3, 1) := by decide +kernel
theorem d_K_doubled_61 : decode b_K_doubled 61 = .ok (.aload_n 0, 1) := by decide +kernel
theorem d_K_doubled_62 : decode b_K_doubled 62 = .ok (.getfield 44, 3) := by decide +kernel
theorem d_K_doubled_65 : decode b_K_doubled 65 = .ok (.if_icmp .ge 26, 3) := by decide +kernel
theorem d_K_doubled_68 : decode b_K_doubled 68 = .ok (.iload_n 2, 1) := by decide +kernel
theorem d_K_doubled_69 : decode b_K_doubled 69 = .ok (.aload_n 0, 1) := by decide +kernel
theorem d_K_doubled_70 : decode b_K_doubled 70 = .ok (.getfield 34, 3) := by decide +kernel
theorem d_K_doubled_73 : decode b_K_doubled 73 = .ok (.iload_n 3, 1) := by decide +kernel
theorem d_K_doubled_74 : decode b_K_doubled 74 = .ok (.baload, 1) := by decide +kernel
theorem d_K_doubled_75 : decode b_K_doubled 75 = .ok (.ifCond .eq 7, 3) := by decide +kernel
theorem d_K_doubled_78 : decode b_K_doubled 78 = .ok (.iconst 1, 1) := by decide +kernel
theorem d_K_doubled_79 : decode b_K_doubled 79 = .ok (.goto 4, 3) := by decide +kernel
theorem d_K_doubled_82 : decode b_K_doubled 82 = .ok (.iconst 0, 1) := by decide +kernel
theorem d_K_doubled_83 : decode b_K_doubled 83 = .ok (.iadd, 1) := by decide +kernel
theorem d_K_doubled_84 : decode b_K_doubled 84 = .ok (.istore_n 2, 1) := by decide +kernel
theorem d_K_doubled_85 : decode b_K_doubled 85 = .ok (.iinc 3 1, 3) := by decide +kernel
theorem d_K_doubled_88 : decode b_K_doubled 88 = .ok (.goto (-28), 3) := by decide +kernel
theorem d_K_doubled_91 : decode b_K_doubled 91 = .ok (.iload_n 1, 1) := by decide +kernel
theorem d_K_doubled_92 : decode b_K_doubled 92 = .ok (.iload_n 2, 1) := by decide +kernel
theorem d_K_doubled_93 : decode b_K_doubled 93 = .ok (.isub, 1) := by decide +kernel
theorem d_K_doubled_94 : decode b_K_doubled 94 = .ok (.iconst 2, 1) := by decide +kernel
theorem d_K_doubled_95 : decode b_K_doubled 95 = .ok (.iadd, 1) := by decide +kernel
theorem d_K_doubled_96 : decode b_K_doubled 96 = .ok (.ireturn, 1) := by decide +kernel
theorem d_L_law_0 : decode code 0 = .ok (.new 8, 3) := by decide +kernel
theorem d_L_law_3 : decode code 3 = .ok (.dup, 1) := by decide +kernel
theorem d_L_law_4 : decode code 4 = .ok (.aload_n 0, 1) := by decide +kernel
theorem d_L_law_5 : decode code 5 = .ok (.iconst 0, 1) := by decide +kernel
theorem d_L_law_6 : decode code 6 = .ok (.invokestatic 52, 3) := by decide +kernel
theorem d_L_law_9 : decode code 9 = .ok (.invokespecial 58, 3) := by decide +kernel
theorem d_L_law_12 : decode code 12 = .ok (.astore_n 1, 1) := by decide +kernel
theorem d_L_law_13 : decode code 13 = .ok (.new 60, 3) := by decide +kernel
theorem d_L_law_16 : decode code 16 = .ok (.dup, 1) := by decide +kernel
theorem d_L_law_17 : decode code 17 = .ok (.aload_n 0, 1) := by decide +kernel
theorem d_L_law_18 : decode code 18 = .ok (.iconst 0, 1) := by decide +kernel
theorem d_L_law_19 : decode code 19 = .ok (.invokestatic 52, 3) := by decide +kernel
theorem d_L_law_22 : decode code 22 = .ok (.invokespecial 62, 3) := by decide +kernel
theorem d_L_law_25 : decode code 25 = .ok (.astore_n 2, 1) := by decide +kernel
theorem d_L_law_26 : decode code 26 = .ok (.iconst 1, 1) := by decide +kernel
theorem d_L_law_27 : decode code 27 = .ok (.newarray .long, 2) := by decide +kernel
theorem d_L_law_29 : decode code 29 = .ok (.astore_n 3, 1) := by decide +kernel
theorem d_L_law_30 : decode code 30 = .ok (.iconst 1, 1) := by decide +kernel
theorem d_L_law_31 : decode code 31 = .ok (.istore 4, 2) := by decide +kernel
theorem d_L_law_33 : decode code 33 = .ok (.iload 4, 2) := by decide +kernel
theorem d_L_law_35 : decode code 35 = .ok (.aload_n 0, 1) := by decide +kernel
theorem d_L_law_36 : decode code 36 = .ok (.arraylength, 1) := by decide +kernel
theorem d_L_law_37 : decode code 37 = .ok (.iconst 4, 1) := by decide +kernel
theorem d_L_law_38 : decode code 38 = .ok (.isub, 1) := by decide +kernel
theorem d_L_law_39 : decode code 39 = .ok (.if_icmp .gt 814, 3) := by decide +kernel
theorem d_L_law_42 : decode code 42 = .ok (.aload_n 0, 1) := by decide +kernel
theorem d_L_law_43 : decode code 43 = .ok (.iload 4, 2) := by decide +kernel
theorem d_L_law_45 : decode code 45 = .ok (.iaload, 1) := by decide +kernel
theorem d_L_law_46 : decode code 46 = .ok (.bipush 15, 2) := by decide +kernel
theorem d_L_law_48 : decode code 48 = .ok (.iand, 1) := by decide +kernel
theorem d_L_law_49 : decode code 49 = .ok (.tableswitch 798 0 13 #[71, 171, 239, 283, 351, 407, 487, 555, 623, 659, 672, 685, 698, 754], 71) := by decide +kernel
theorem d_L_law_120 : decode code 120 = .ok (.aload_n 1, 1) := by decide +kernel
theorem d_L_law_121 : decode code 121 = .ok (.aload_n 0, 1) := by decide +kernel
theorem d_L_law_122 : decode code 122 = .ok (.iload 4, 2) := by decide +kernel
theorem d_L_law_124 : decode code 124 = .ok (.iconst 1, 1) := by decide +kernel
theorem d_L_law_125 : decode code 125 = .ok (.iadd, 1) := by decide +kernel
theorem d_L_law_126 : decode code 126 = .ok (.iaload, 1) := by decide +kernel
theorem d_L_law_127 : decode code 127 = .ok (.i2l, 1) := by decide +kernel
theorem d_L_law_128 : decode code 128 = .ok (.bipush 32, 2) := by decide +kernel
theorem d_L_law_130 : decode code 130 = .ok (.lshl, 1) := by decide +kernel
theorem d_L_law_131 : decode code 131 = .ok (.aload_n 0, 1) := by decide +kernel
theorem d_L_law_132 : decode code 132 = .ok (.iload 4, 2) := by decide +kernel
theorem d_L_law_134 : decode code 134 = .ok (.iconst 2, 1) := by decide +kernel
theorem d_L_law_135 : decode code 135 = .ok (.iadd, 1) := by decide +kernel
theorem d_L_law_136 : decode code 136 = .ok (.iaload, 1) := by decide +kernel
theorem d_L_law_137 : decode code 137 = .ok (.i2l, 1) := by decide +kernel
theorem d_L_law_138 : decode code 138 = .ok (.ldc2_w 63, 3) := by decide +kernel
theorem d_L_law_141 : decode code 141 = .ok (.land, 1) := by decide +kernel
theorem d_L_law_142 : decode code 142 = .ok (.lor, 1) := by decide +kernel
theorem d_L_law_143 : decode code 143 = .ok (.aload_n 0, 1) := by decide +kernel
theorem d_L_law_144 : decode code 144 = .ok (.iload 4, 2) := by decide +kernel
theorem d_L_law_146 : decode code 146 = .ok (.iconst 3, 1) := by decide +kernel
theorem d_L_law_147 : decode code 147 = .ok (.iadd, 1) := by decide +kernel
theorem d_L_law_148 : decode code 148 = .ok (.iaload, 1) := by decide +kernel
theorem d_L_law_149 : decode code 149 = .ok (.aload_n 3, 1) := by decide +kernel
theorem d_L_law_150 : decode code 150 = .ok (.invokestatic 65, 3) := by decide +kernel
theorem d_L_law_153 : decode code 153 = .ok (.istore 5, 2) := by decide +kernel
theorem d_L_law_155 : decode code 155 = .ok (.aload_n 2, 1) := by decide +kernel
theorem d_L_law_156 : decode code 156 = .ok (.aload_n 0, 1) := by decide +kernel
theorem d_L_law_157 : decode code 157 = .ok (.iload 4, 2) := by decide +kernel
theorem d_L_law_159 : decode code 159 = .ok (.iconst 1, 1) := by decide +kernel
theorem d_L_law_160 : decode code 160 = .ok (.iadd, 1) := by decide +kernel
theorem d_L_law_161 : decode code 161 = .ok (.iaload, 1) := by decide +kernel
theorem d_L_law_162 : decode code 162 = .ok (.i2l, 1) := by decide +kernel
theorem d_L_law_163 : decode code 163 = .ok (.bipush 32, 2) := by decide +kernel
theorem d_L_law_165 : decode code 165 = .ok (.lshl, 1) := by decide +kernel
theorem d_L_law_166 : decode code 166 = .ok (.aload_n 0, 1) := by decide +kernel
theorem d_L_law_167 : decode code 167 = .ok (.iload 4, 2) := by decide +kernel
theorem d_L_law_169 : decode code 169 = .ok (.iconst 2, 1) := by decide +kernel
theorem d_L_law_170 : decode code 170 = .ok (.iadd, 1) := by decide +kernel
theorem d_L_law_171 : decode code 171 = .ok (.iaload, 1) := by decide +kernel
theorem d_L_law_172 : decode code 172 = .ok (.i2l, 1) := by decide +kernel
theorem d_L_law_173 : decode code 173 = .ok (.ldc2_w 63, 3) := by decide +kernel
theorem d_L_law_176 : decode code 176 = .ok (.land, 1) := by decide +kernel
theorem d_L_law_177 : decode code 177 = .ok (.lor, 1) := by decide +kernel
theorem d_L_law_178 : decode code 178 = .ok (.aload_n 0, 1) := by decide +kernel
theorem d_L_law_179 : decode code 179 = .ok (.iload 4, 2) := by decide +kernel
theorem d_L_law_181 : decode code 181 = .ok (.iconst 3, 1) := by decide +kernel
theorem d_L_law_182 : decode code 182 = .ok (.iadd, 1) := by decide +kernel
theorem d_L_law_183 : decode code 183 = .ok (.iaload, 1) := by decide +kernel
theorem d_L_law_184 : decode code 184 = .ok (.invokevirtual 68, 3) := by decide +kernel
theorem d_L_law_187 : decode code 187 = .ok (.istore 6, 2) := by decide +kernel
theorem d_L_law_189 : decode code 189 = .ok (.aload_n 2, 1) := by decide +kernel
theorem d_L_law_190 : decode code 190 = .ok (.invokevirtual 69, 3) := by decide +kernel
theorem d_L_law_193 : decode code 193 = .ok (.iload 5, 2) := by decide +kernel
theorem d_L_law_195 : decode code 195 = .ok (.if_icmp .eq 5, 3) := by decide +kernel
theorem d_L_law_198 : decode code 198 = .ok (.iconst 0, 1) := by decide +kernel
theorem d_L_law_199 : decode code 199 = .ok (.ireturn, 1) := by decide +kernel
theorem d_L_law_200 : decode code 200 = .ok (.iload 5, 2) := by decide +kernel
theorem d_L_law_202 : decode code 202 = .ok (.ifCond .ne 15, 3) := by decide +kernel
theorem d_L_law_205 : decode code 205 = .ok (.aload_n 3, 1) := by decide +kernel
theorem d_L_law_206 : decode code 206 = .ok (.iconst 0, 1) := by decide +kernel
theorem d_L_law_207 : decode code 207 = .ok (.laload, 1) := by decide +kernel
theorem d_L_law_208 : decode code 208 = .ok (.iload 6, 2) := by decide +kernel
theorem d_L_law_210 : decode code 210 = .ok (.i2l, 1) := by decide +kernel
theorem d_L_law_211 : decode code 211 = .ok (.lcmp, 1) := by decide +kernel
theorem d_L_law_212 : decode code 212 = .ok (.ifCond .eq 5, 3) := by decide +kernel
theorem d_L_law_215 : decode code 215 = .ok (.iconst 0, 1) := by decide +kernel
theorem d_L_law_216 : decode code 216 = .ok (.ireturn, 1) := by decide +kernel
theorem d_L_law_217 : decode code 217 = .ok (.goto 630, 3) := by decide +kernel
theorem d_L_law_220 : decode code 220 = .ok (.aload_n 1, 1) := by decide +kernel
theorem d_L_law_221 : decode code 221 = .ok (.aload_n 0, 1) := by decide +kernel
theorem d_L_law_222 : decode code 222 = .ok (.iload 4, 2) := by decide +kernel
theorem d_L_law_224 : decode code 224 = .ok (.iconst 1, 1) := by decide +kernel
theorem d_L_law_225 : decode code 225 = .ok (.iadd, 1) := by decide +kernel
theorem d_L_law_226 : decode code 226 = .ok (.iaload, 1) := by decide +kernel
theorem d_L_law_227 : decode code 227 = .ok (.aload_n 0, 1) := by decide +kernel
theorem d_L_law_228 : decode code 228 = .ok (.iload 4, 2) := by decide +kernel
theorem d_L_law_230 : decode code 230 = .ok (.iconst 2, 1) := by decide +kernel
theorem d_L_law_231 : decode code 231 = .ok (.iadd, 1) := by decide +kernel
theorem d_L_law_232 : decode code 232 = .ok (.iaload, 1) := by decide +kernel
theorem d_L_law_233 : decode code 233 = .ok (.aload_n 3, 1) := by decide +kernel
theorem d_L_law_234 : decode code 234 = .ok (.invokestatic 72, 3) := by decide +kernel
theorem d_L_law_237 : decode code 237 = .ok (.istore 5, 2) := by decide +kernel
theorem d_L_law_239 : decode code 239 = .ok (.aload_n 2, 1) := by decide +kernel
theorem d_L_law_240 : decode code 240 = .ok (.aload_n 0, 1) := by decide +kernel
theorem d_L_law_241 : decode code 241 = .ok (.iload 4, 2) := by decide +kernel
theorem d_L_law_243 : decode code 243 = .ok (.iconst 1, 1) := by decide +kernel
theorem d_L_law_244 : decode code 244 = .ok (.iadd, 1) := by decide +kernel
theorem d_L_law_245 : decode code 245 = .ok (.iaload, 1) := by decide +kernel
theorem d_L_law_246 : decode code 246 = .ok (.aload_n 0, 1) := by decide +kernel
theorem d_L_law_247 : decode code 247 = .ok (.iload 4, 2) := by decide +kernel
theorem d_L_law_249 : decode code 249 = .ok (.iconst 2, 1) := by decide +kernel
theorem d_L_law_250 : decode code 250 = .ok (.iadd, 1) := by decide +kernel
theorem d_L_law_251 : decode code 251 = .ok (.iaload, 1) := by decide +kernel
theorem d_L_law_252 : decode code 252 = .ok (.invokevirtual 75, 3) := by decide +kernel
theorem d_L_law_255 : decode code 255 = .ok (.istore 6, 2) := by decide +kernel
theorem d_L_law_257 : decode code 257 = .ok (.aload_n 2, 1) := by decide +kernel
theorem d_L_law_258 : decode code 258 = .ok (.invokevirtual 69, 3) := by decide +kernel
theorem d_L_law_261 : decode code 261 = .ok (.iload 5, 2) := by decide +kernel
theorem d_L_law_263 : decode code 263 = .ok (.if_icmp .eq 5, 3) := by decide +kernel
theorem d_L_law_266 : decode code 266 = .ok (.iconst 0, 1) := by decide +kernel
theorem d_L_law_267 : decode code 267 = .ok (.ireturn, 1) := by decide +kernel
theorem d_L_law_268 : decode code 268 = .ok (.iload 5, 2) := by decide +kernel
theorem d_L_law_270 : decode code 270 = .ok (.ifCond .ne 15, 3) := by decide +kernel
theorem d_L_law_273 : decode code 273 = .ok (.aload_n 3, 1) := by decide +kernel
theorem d_L_law_274 : decode code 274 = .ok (.iconst 0, 1) := by decide +kernel
theorem d_L_law_275 : decode code 275 = .ok (.laload, 1) := by decide +kernel
theorem d_L_law_276 : decode code 276 = .ok (.iload 6, 2) := by decide +kernel
theorem d_L_law_278 : decode code 278 = .ok (.i2l, 1) := by decide +kernel
theorem d_L_law_279 : decode code 279 = .ok (.lcmp, 1) := by decide +kernel
theorem d_L_law_280 : decode code 280 = .ok (.ifCond .eq 5, 3) := by decide +kernel
theorem d_L_law_283 : decode code 283 = .ok (.iconst 0, 1) := by decide +kernel
theorem d_L_law_284 : decode code 284 = .ok (.ireturn, 1) := by decide +kernel
theorem d_L_law_285 : decode code 285 = .ok (.goto 562, 3) := by decide +kernel
theorem d_L_law_288 : decode code 288 = .ok (.aload_n 1, 1) := by decide +kernel
theorem d_L_law_289 : decode code 289 = .ok (.aload_n 3, 1) := by decide +kernel
theorem d_L_law_290 : decode code 290 = .ok (.invokestatic 76, 3) := by decide +kernel
theorem d_L_law_293 : decode code 293 = .ok (.istore 5, 2) := by decide +kernel
theorem d_L_law_295 : decode code 295 = .ok (.aload_n 2, 1) := by decide +kernel
theorem d_L_law_296 : decode code 296 = .ok (.invokevirtual 79, 3) := by decide +kernel
theorem d_L_law_299 : decode code 299 = .ok (.istore 6, 2) := by decide +kernel
theorem d_L_law_301 : decode code 301 = .ok (.aload_n 2, 1) := by decide +kernel
theorem d_L_law_302 : decode code 302 = .ok (.invokevirtual 69, 3) := by decide +kernel
theorem d_L_law_305 : decode code 305 = .ok (.iload 5, 2) := by decide +kernel
theorem d_L_law_307 : decode code 307 = .ok (.if_icmp .eq 5, 3) := by decide +kernel
theorem d_L_law_310 : decode code 310 = .ok (.iconst 0, 1) := by decide +kernel
theorem d_L_law_311 : decode code 311 = .ok (.ireturn, 1) := by decide +kernel
theorem d_L_law_312 : decode code 312 = .ok (.iload 5, 2) := by decide +kernel
theorem d_L_law_314 : decode code 314 = .ok (.ifCond .ne 15, 3) := by decide +kernel
theorem d_L_law_317 : decode code 317 = .ok (.aload_n 3, 1) := by decide +kernel
theorem d_L_law_318 : decode code 318 = .ok (.iconst 0, 1) := by decide +kernel
theorem d_L_law_319 : decode code 319 = .ok (.laload, 1) := by decide +kernel
theorem d_L_law_320 : decode code 320 = .ok (.iload 6, 2) := by decide +kernel
theorem d_L_law_322 : decode code 322 = .ok (.i2l, 1) := by decide +kernel
theorem d_L_law_323 : decode code 323 = .ok (.lcmp, 1) := by decide +kernel
theorem d_L_law_324 : decode code 324 = .ok (.ifCond .eq 5, 3) := by decide +kernel
theorem d_L_law_327 : decode code 327 = .ok (.iconst 0, 1) := by decide +kernel
theorem d_L_law_328 : decode code 328 = .ok (.ireturn, 1) := by decide +kernel
theorem d_L_law_329 : decode code 329 = .ok (.goto 518, 3) := by decide +kernel
theorem d_L_law_332 : decode code 332 = .ok (.aload_n 1, 1) := by decide +kernel
theorem d_L_law_333 : decode code 333 = .ok (.aload_n 0, 1) := by decide +kernel
theorem d_L_law_334 : decode code 334 = .ok (.iload 4, 2) := by decide +kernel
theorem d_L_law_336 : decode code 336 = .ok (.iconst 1, 1) := by decide +kernel
theorem d_L_law_337 : decode code 337 = .ok (.iadd, 1) := by decide +kernel
theorem d_L_law_338 : decode code 338 = .ok (.iaload, 1) := by decide +kernel
theorem d_L_law_339 : decode code 339 = .ok (.aload_n 0, 1) := by decide +kernel
theorem d_L_law_340 : decode code 340 = .ok (.iload 4, 2) := by decide +kernel
theorem d_L_law_342 : decode code 342 = .ok (.iconst 2, 1) := by decide +kernel
theorem d_L_law_343 : decode code 343 = .ok (.iadd, 1) := by decide +kernel
theorem d_L_law_344 : decode code 344 = .ok (.iaload, 1) := by decide +kernel
theorem d_L_law_345 : decode code 345 = .ok (.aload_n 3, 1) := by decide +kernel
theorem d_L_law_346 : decode code 346 = .ok (.invokestatic 80, 3) := by decide +kernel
theorem d_L_law_349 : decode code 349 = .ok (.istore 5, 2) := by decide +kernel
theorem d_L_law_351 : decode code 351 = .ok (.aload_n 2, 1) := by decide +kernel
theorem d_L_law_352 : decode code 352 = .ok (.aload_n 0, 1) := by decide +kernel
theorem d_L_law_353 : decode code 353 = .ok (.iload 4, 2) := by decide +kernel
theorem d_L_law_355 : decode code 355 = .ok (.iconst 1, 1) := by decide +kernel
theorem d_L_law_356 : decode code 356 = .ok (.iadd, 1) := by decide +kernel
theorem d_L_law_357 : decode code 357 = .ok (.iaload, 1) := by decide +kernel
theorem d_L_law_358 : decode code 358 = .ok (.aload_n 0, 1) := by decide +kernel
theorem d_L_law_359 : decode code 359 = .ok (.iload 4, 2) := by decide +kernel
theorem d_L_law_361 : decode code 361 = .ok (.iconst 2, 1) := by decide +kernel
theorem d_L_law_362 : decode code 362 = .ok (.iadd, 1) := by decide +kernel
theorem d_L_law_363 : decode code 363 = .ok (.iaload, 1) := by decide +kernel
theorem d_L_law_364 : decode code 364 = .ok (.invokevirtual 82, 3) := by decide +kernel
theorem d_L_law_367 : decode code 367 = .ok (.istore 6, 2) := by decide +kernel
theorem d_L_law_369 : decode code 369 = .ok (.aload_n 2, 1) := by decide +kernel
theorem d_L_law_370 : decode code 370 = .ok (.invokevirtual 69, 3) := by decide +kernel
theorem d_L_law_373 : decode code 373 = .ok (.iload 5, 2) := by decide +kernel
