theorem dX10_told_144 : decode cX10_told 144 = .ok (.iload_n 1, 1) := by decide +kernel
theorem dX10_told_145 : decode cX10_told 145 = .ok (.invokevirtual 272, 3) := by decide +kernel
theorem dX10_told_148 : decode cX10_told 148 = .ok (.getfield 281, 3) := by decide +kernel
theorem dX10_told_151 : decode cX10_told 151 = .ok (.ifCond .eq 7, 3) := by decide +kernel
theorem dX10_told_154 : decode cX10_told 154 = .ok (.iconst 1, 1) := by decide +kernel
theorem dX10_told_155 : decode cX10_told 155 = .ok (.goto 4, 3) := by decide +kernel
theorem dX10_told_158 : decode cX10_told 158 = .ok (.iconst 0, 1) := by decide +kernel
theorem dX10_told_159 : decode cX10_told 159 = .ok (.ireturn, 1) := by decide +kernel
theorem dX10_told_160 : decode cX10_told 160 = .ok (.aload_n 0, 1) := by decide +kernel
theorem dX10_told_161 : decode cX10_told 161 = .ok (.getfield 60, 3) := by decide +kernel
theorem dX10_told_164 : decode cX10_told 164 = .ok (.getfield 284, 3) := by decide +kernel
theorem dX10_told_167 : decode cX10_told 167 = .ok (.iload_n 1, 1) := by decide +kernel
theorem dX10_told_168 : decode cX10_told 168 = .ok (.iconst 3, 1) := by decide +kernel
theorem dX10_told_169 : decode cX10_told 169 = .ok (.imul, 1) := by decide +kernel
theorem dX10_told_170 : decode cX10_told 170 = .ok (.iload_n 2, 1) := by decide +kernel
theorem dX10_told_171 : decode cX10_told 171 = .ok (.iadd, 1) := by decide +kernel
theorem dX10_told_172 : decode cX10_told 172 = .ok (.iconst 1, 1) := by decide +kernel
theorem dX10_told_173 : decode cX10_told 173 = .ok (.isub, 1) := by decide +kernel
theorem dX10_told_174 : decode cX10_told 174 = .ok (.iaload, 1) := by decide +kernel
theorem dX10_told_175 : decode cX10_told 175 = .ok (.ireturn, 1) := by decide +kernel
theorem dX10_result_0 : decode cX10_result 0 = .ok (.aload_n 0, 1) := by decide +kernel
theorem dX10_result_1 : decode cX10_result 1 = .ok (.iload_n 1, 1) := by decide +kernel
theorem dX10_result_2 : decode cX10_result 2 = .ok (.invokevirtual 227, 3) := by decide +kernel
theorem dX10_result_5 : decode cX10_result 5 = .ok (.ifCond .eq 23, 3) := by decide +kernel
theorem dX10_result_8 : decode cX10_result 8 = .ok (.iload_n 2, 1) := by decide +kernel
theorem dX10_result_9 : decode cX10_result 9 = .ok (.invokestatic 189, 3) := by decide +kernel
theorem dX10_result_12 : decode cX10_result 12 = .ok (.ifCond .eq 16, 3) := by decide +kernel
theorem dX10_result_15 : decode cX10_result 15 = .ok (.aload_n 0, 1) := by decide +kernel
theorem dX10_result_16 : decode cX10_result 16 = .ok (.getfield 60, 3) := by decide +kernel
theorem dX10_result_19 : decode cX10_result 19 = .ok (.getfield 233, 3) := by decide +kernel
theorem dX10_result_22 : decode cX10_result 22 = .ok (.iload_n 1, 1) := by decide +kernel
theorem dX10_result_23 : decode cX10_result 23 = .ok (.iaload, 1) := by decide +kernel
theorem dX10_result_24 : decode cX10_result 24 = .ok (.iconst 2, 1) := by decide +kernel
theorem dX10_result_25 : decode cX10_result 25 = .ok (.if_icmp .eq 6, 3) := by decide +kernel
theorem dX10_result_28 : decode cX10_result 28 = .ok (.ldc 177, 2) := by decide +kernel
theorem dX10_result_30 : decode cX10_result 30 = .ok (.ireturn, 1) := by decide +kernel
theorem dX10_result_31 : decode cX10_result 31 = .ok (.iload_n 1, 1) := by decide +kernel
theorem dX10_result_32 : decode cX10_result 32 = .ok (.iconst 3, 1) := by decide +kernel
theorem dX10_result_33 : decode cX10_result 33 = .ok (.imul, 1) := by decide +kernel
theorem dX10_result_34 : decode cX10_result 34 = .ok (.istore_n 3, 1) := by decide +kernel
theorem dX10_result_35 : decode cX10_result 35 = .ok (.aload_n 0, 1) := by decide +kernel
theorem dX10_result_36 : decode cX10_result 36 = .ok (.getfield 46, 3) := by decide +kernel
theorem dX10_result_39 : decode cX10_result 39 = .ok (.aload_n 0, 1) := by decide +kernel
theorem dX10_result_40 : decode cX10_result 40 = .ok (.getfield 60, 3) := by decide +kernel
theorem dX10_result_43 : decode cX10_result 43 = .ok (.getfield 260, 3) := by decide +kernel
theorem dX10_result_46 : decode cX10_result 46 = .ok (.iload_n 1, 1) := by decide +kernel
theorem dX10_result_47 : decode cX10_result 47 = .ok (.iaload, 1) := by decide +kernel
theorem dX10_result_48 : decode cX10_result 48 = .ok (.aload_n 0, 1) := by decide +kernel
theorem dX10_result_49 : decode cX10_result 49 = .ok (.getfield 60, 3) := by decide +kernel
theorem dX10_result_52 : decode cX10_result 52 = .ok (.getfield 284, 3) := by decide +kernel
theorem dX10_result_55 : decode cX10_result 55 = .ok (.iload_n 3, 1) := by decide +kernel
theorem dX10_result_56 : decode cX10_result 56 = .ok (.iaload, 1) := by decide +kernel
theorem dX10_result_57 : decode cX10_result 57 = .ok (.i2l, 1) := by decide +kernel
theorem dX10_result_58 : decode cX10_result 58 = .ok (.aload_n 0, 1) := by decide +kernel
theorem dX10_result_59 : decode cX10_result 59 = .ok (.getfield 60, 3) := by decide +kernel
theorem dX10_result_62 : decode cX10_result 62 = .ok (.getfield 284, 3) := by decide +kernel
theorem dX10_result_65 : decode cX10_result 65 = .ok (.iload_n 3, 1) := by decide +kernel
theorem dX10_result_66 : decode cX10_result 66 = .ok (.iconst 1, 1) := by decide +kernel
theorem dX10_result_67 : decode cX10_result 67 = .ok (.iadd, 1) := by decide +kernel
theorem dX10_result_68 : decode cX10_result 68 = .ok (.iaload, 1) := by decide +kernel
theorem dX10_result_69 : decode cX10_result 69 = .ok (.i2l, 1) := by decide +kernel
theorem dX10_result_70 : decode cX10_result 70 = .ok (.aload_n 0, 1) := by decide +kernel
theorem dX10_result_71 : decode cX10_result 71 = .ok (.getfield 60, 3) := by decide +kernel
theorem dX10_result_74 : decode cX10_result 74 = .ok (.getfield 284, 3) := by decide +kernel
theorem dX10_result_77 : decode cX10_result 77 = .ok (.iload_n 3, 1) := by decide +kernel
theorem dX10_result_78 : decode cX10_result 78 = .ok (.iconst 2, 1) := by decide +kernel
theorem dX10_result_79 : decode cX10_result 79 = .ok (.iadd, 1) := by decide +kernel
theorem dX10_result_80 : decode cX10_result 80 = .ok (.iaload, 1) := by decide +kernel
theorem dX10_result_81 : decode cX10_result 81 = .ok (.i2l, 1) := by decide +kernel
theorem dX10_result_82 : decode cX10_result 82 = .ok (.invokevirtual 192, 3) := by decide +kernel
theorem dX10_result_85 : decode cX10_result 85 = .ok (.pop, 1) := by decide +kernel
theorem dX10_result_86 : decode cX10_result 86 = .ok (.aload_n 0, 1) := by decide +kernel
theorem dX10_result_87 : decode cX10_result 87 = .ok (.getfield 46, 3) := by decide +kernel
theorem dX10_result_90 : decode cX10_result 90 = .ok (.iload_n 2, 1) := by decide +kernel
theorem dX10_result_91 : decode cX10_result 91 = .ok (.invokevirtual 196, 3) := by decide +kernel
theorem dX10_result_94 : decode cX10_result 94 = .ok (.l2i, 1) := by decide +kernel
theorem dX10_result_95 : decode cX10_result 95 = .ok (.ireturn, 1) := by decide +kernel
theorem dX10_trace_0 : decode cX10_trace 0 = .ok (.aload_n 0, 1) := by decide +kernel
theorem dX10_trace_1 : decode cX10_trace 1 = .ok (.iload_n 1, 1) := by decide +kernel
theorem dX10_trace_2 : decode cX10_trace 2 = .ok (.invokevirtual 287, 3) := by decide +kernel
theorem dX10_trace_5 : decode cX10_trace 5 = .ok (.ifCond .eq 29, 3) := by decide +kernel
theorem dX10_trace_8 : decode cX10_trace 8 = .ok (.iload_n 2, 1) := by decide +kernel
theorem dX10_trace_9 : decode cX10_trace 9 = .ok (.ifCond .lt 25, 3) := by decide +kernel
theorem dX10_trace_12 : decode cX10_trace 12 = .ok (.iload_n 2, 1) := by decide +kernel
theorem dX10_trace_13 : decode cX10_trace 13 = .ok (.aload_n 0, 1) := by decide +kernel
theorem dX10_trace_14 : decode cX10_trace 14 = .ok (.getfield 60, 3) := by decide +kernel
theorem dX10_trace_17 : decode cX10_trace 17 = .ok (.getfield 263, 3) := by decide +kernel
theorem dX10_trace_20 : decode cX10_trace 20 = .ok (.iload_n 1, 1) := by decide +kernel
theorem dX10_trace_21 : decode cX10_trace 21 = .ok (.iaload, 1) := by decide +kernel
theorem dX10_trace_22 : decode cX10_trace 22 = .ok (.if_icmp .gt 12, 3) := by decide +kernel
theorem dX10_trace_25 : decode cX10_trace 25 = .ok (.iload_n 3, 1) := by decide +kernel
theorem dX10_trace_26 : decode cX10_trace 26 = .ok (.ifCond .lt 8, 3) := by decide +kernel
theorem dX10_trace_29 : decode cX10_trace 29 = .ok (.iload_n 3, 1) := by decide +kernel
theorem dX10_trace_30 : decode cX10_trace 30 = .ok (.iconst 2, 1) := by decide +kernel
theorem dX10_trace_31 : decode cX10_trace 31 = .ok (.if_icmp .le 7, 3) := by decide +kernel
theorem dX10_trace_34 : decode cX10_trace 34 = .ok (.ldc2_w 292, 3) := by decide +kernel
theorem dX10_trace_37 : decode cX10_trace 37 = .ok (.lreturn, 1) := by decide +kernel
theorem dX10_trace_38 : decode cX10_trace 38 = .ok (.aload_n 0, 1) := by decide +kernel
theorem dX10_trace_39 : decode cX10_trace 39 = .ok (.getfield 60, 3) := by decide +kernel
theorem dX10_trace_42 : decode cX10_trace 42 = .ok (.iload_n 1, 1) := by decide +kernel
theorem dX10_trace_43 : decode cX10_trace 43 = .ok (.aload_n 0, 1) := by decide +kernel
theorem dX10_trace_44 : decode cX10_trace 44 = .ok (.getfield 46, 3) := by decide +kernel
theorem dX10_trace_47 : decode cX10_trace 47 = .ok (.iload_n 2, 1) := by decide +kernel
theorem dX10_trace_48 : decode cX10_trace 48 = .ok (.invokevirtual 294, 3) := by decide +kernel
theorem dX10_trace_51 : decode cX10_trace 51 = .ok (.iload_n 3, 1) := by decide +kernel
theorem dX10_trace_52 : decode cX10_trace 52 = .ok (.ifCond .ne 11, 3) := by decide +kernel
theorem dX10_trace_55 : decode cX10_trace 55 = .ok (.aload_n 0, 1) := by decide +kernel
theorem dX10_trace_56 : decode cX10_trace 56 = .ok (.getfield 46, 3) := by decide +kernel
theorem dX10_trace_59 : decode cX10_trace 59 = .ok (.getfield 298, 3) := by decide +kernel
theorem dX10_trace_62 : decode cX10_trace 62 = .ok (.lreturn, 1) := by decide +kernel
theorem dX10_trace_63 : decode cX10_trace 63 = .ok (.iload_n 3, 1) := by decide +kernel
theorem dX10_trace_64 : decode cX10_trace 64 = .ok (.iconst 1, 1) := by decide +kernel
theorem dX10_trace_65 : decode cX10_trace 65 = .ok (.if_icmp .ne 13, 3) := by decide +kernel
theorem dX10_trace_68 : decode cX10_trace 68 = .ok (.aload_n 0, 1) := by decide +kernel
theorem dX10_trace_69 : decode cX10_trace 69 = .ok (.getfield 46, 3) := by decide +kernel
theorem dX10_trace_72 : decode cX10_trace 72 = .ok (.getfield 301, 3) := by decide +kernel
theorem dX10_trace_75 : decode cX10_trace 75 = .ok (.goto 10, 3) := by decide +kernel
theorem dX10_trace_78 : decode cX10_trace 78 = .ok (.aload_n 0, 1) := by decide +kernel
theorem dX10_trace_79 : decode cX10_trace 79 = .ok (.getfield 46, 3) := by decide +kernel
theorem dX10_trace_82 : decode cX10_trace 82 = .ok (.getfield 304, 3) := by decide +kernel
theorem dX10_trace_85 : decode cX10_trace 85 = .ok (.lreturn, 1) := by decide +kernel
theorem dX10_signs_0 : decode cX10_signs 0 = .ok (.aload_n 0, 1) := by decide +kernel
theorem dX10_signs_1 : decode cX10_signs 1 = .ok (.iload_n 1, 1) := by decide +kernel
theorem dX10_signs_2 : decode cX10_signs 2 = .ok (.invokevirtual 287, 3) := by decide +kernel
theorem dX10_signs_5 : decode cX10_signs 5 = .ok (.ifCond .ne 5, 3) := by decide +kernel
theorem dX10_signs_8 : decode cX10_signs 8 = .ok (.iconst (-1), 1) := by decide +kernel
theorem dX10_signs_9 : decode cX10_signs 9 = .ok (.ireturn, 1) := by decide +kernel
theorem dX10_signs_10 : decode cX10_signs 10 = .ok (.aload_n 0, 1) := by decide +kernel
theorem dX10_signs_11 : decode cX10_signs 11 = .ok (.getfield 60, 3) := by decide +kernel
theorem dX10_signs_14 : decode cX10_signs 14 = .ok (.iload_n 1, 1) := by decide +kernel
theorem dX10_signs_15 : decode cX10_signs 15 = .ok (.aload_n 0, 1) := by decide +kernel
theorem dX10_signs_16 : decode cX10_signs 16 = .ok (.getfield 46, 3) := by decide +kernel
theorem dX10_signs_19 : decode cX10_signs 19 = .ok (.aload_n 0, 1) := by decide +kernel
theorem dX10_signs_20 : decode cX10_signs 20 = .ok (.getfield 60, 3) := by decide +kernel
theorem dX10_signs_23 : decode cX10_signs 23 = .ok (.getfield 263, 3) := by decide +kernel
theorem dX10_signs_26 : decode cX10_signs 26 = .ok (.iload_n 1, 1) := by decide +kernel
theorem dX10_signs_27 : decode cX10_signs 27 = .ok (.iaload, 1) := by decide +kernel
theorem dX10_signs_28 : decode cX10_signs 28 = .ok (.invokevirtual 294, 3) := by decide +kernel
theorem dX10_signs_31 : decode cX10_signs 31 = .ok (.aload_n 0, 1) := by decide +kernel
theorem dX10_signs_32 : decode cX10_signs 32 = .ok (.getfield 46, 3) := by decide +kernel
theorem dX10_signs_35 : decode cX10_signs 35 = .ok (.getfield 307, 3) := by decide +kernel
theorem dX10_signs_38 : decode cX10_signs 38 = .ok (.ireturn, 1) := by decide +kernel
theorem dX10_register_0 : decode cX10_register 0 = .ok (.aload_n 0, 1) := by decide +kernel
theorem dX10_register_1 : decode cX10_register 1 = .ok (.getfield 110, 3) := by decide +kernel
theorem dX10_register_4 : decode cX10_register 4 = .ok (.ifCond .eq 29, 3) := by decide +kernel
theorem dX10_register_7 : decode cX10_register 7 = .ok (.iload_n 1, 1) := by decide +kernel
theorem dX10_register_8 : decode cX10_register 8 = .ok (.ifCond .lt 25, 3) := by decide +kernel
theorem dX10_register_11 : decode cX10_register 11 = .ok (.iload_n 1, 1) := by decide +kernel
theorem dX10_register_12 : decode cX10_register 12 = .ok (.aload_n 0, 1) := by decide +kernel
theorem dX10_register_13 : decode cX10_register 13 = .ok (.getfield 37, 3) := by decide +kernel
theorem dX10_register_16 : decode cX10_register 16 = .ok (.getfield 116, 3) := by decide +kernel
theorem dX10_register_19 : decode cX10_register 19 = .ok (.if_icmp .gt 14, 3) := by decide +kernel
theorem dX10_register_22 : decode cX10_register 22 = .ok (.aload_n 0, 1) := by decide +kernel
theorem dX10_register_23 : decode cX10_register 23 = .ok (.getfield 60, 3) := by decide +kernel
theorem dX10_register_26 : decode cX10_register 26 = .ok (.iload_n 1, 1) := by decide +kernel
theorem dX10_register_27 : decode cX10_register 27 = .ok (.invokevirtual 310, 3) := by decide +kernel
theorem dX10_register_30 : decode cX10_register 30 = .ok (.goto 4, 3) := by decide +kernel
theorem dX10_register_33 : decode cX10_register 33 = .ok (.iconst (-1), 1) := by decide +kernel
theorem dX10_register_34 : decode cX10_register 34 = .ok (.ireturn, 1) := by decide +kernel
theorem dX10_place_0 : decode cX10_place 0 = .ok (.aload_n 0, 1) := by decide +kernel
theorem dX10_place_1 : decode cX10_place 1 = .ok (.getfield 110, 3) := by decide +kernel
theorem dX10_place_4 : decode cX10_place 4 = .ok (.ifCond .eq 33, 3) := by decide +kernel
theorem dX10_place_7 : decode cX10_place 7 = .ok (.iload_n 1, 1) := by decide +kernel
theorem dX10_place_8 : decode cX10_place 8 = .ok (.ifCond .lt 29, 3) := by decide +kernel
theorem dX10_place_11 : decode cX10_place 11 = .ok (.iload_n 1, 1) := by decide +kernel
theorem dX10_place_12 : decode cX10_place 12 = .ok (.aload_n 0, 1) := by decide +kernel
theorem dX10_place_13 : decode cX10_place 13 = .ok (.getfield 37, 3) := by decide +kernel
theorem dX10_place_16 : decode cX10_place 16 = .ok (.getfield 121, 3) := by decide +kernel
theorem dX10_place_19 : decode cX10_place 19 = .ok (.if_icmp .ge 18, 3) := by decide +kernel
theorem dX10_place_22 : decode cX10_place 22 = .ok (.aload_n 0, 1) := by decide +kernel
theorem dX10_place_23 : decode cX10_place 23 = .ok (.getfield 60, 3) := by decide +kernel
theorem dX10_place_26 : decode cX10_place 26 = .ok (.iload_n 1, 1) := by decide +kernel
theorem dX10_place_27 : decode cX10_place 27 = .ok (.aload_n 0, 1) := by decide +kernel
theorem dX10_place_28 : decode cX10_place 28 = .ok (.getfield 37, 3) := by decide +kernel
theorem dX10_place_31 : decode cX10_place 31 = .ok (.invokevirtual 313, 3) := by decide +kernel
theorem dX10_place_34 : decode cX10_place 34 = .ok (.goto 4, 3) := by decide +kernel
theorem dX10_place_37 : decode cX10_place 37 = .ok (.iconst (-1), 1) := by decide +kernel
theorem dX10_place_38 : decode cX10_place 38 = .ok (.ireturn, 1) := by decide +kernel
theorem dX10_allOver_0 : decode cX10_allOver 0 = .ok (.aload_n 0, 1) := by decide +kernel
theorem dX10_allOver_1 : decode cX10_allOver 1 = .ok (.getfield 110, 3) := by decide +kernel
theorem dX10_allOver_4 : decode cX10_allOver 4 = .ok (.ifCond .ne 5, 3) := by decide +kernel
theorem dX10_allOver_7 : decode cX10_allOver 7 = .ok (.iconst (-1), 1) := by decide +kernel
theorem dX10_allOver_8 : decode cX10_allOver 8 = .ok (.ireturn, 1) := by decide +kernel
theorem dX10_allOver_9 : decode cX10_allOver 9 = .ok (.aload_n 0, 1) := by decide +kernel
theorem dX10_allOver_10 : decode cX10_allOver 10 = .ok (.getfield 67, 3) := by decide +kernel
theorem dX10_allOver_13 : decode cX10_allOver 13 = .ok (.aload_n 0, 1) := by decide +kernel
theorem dX10_allOver_14 : decode cX10_allOver 14 = .ok (.getfield 60, 3) := by decide +kernel
theorem dX10_allOver_17 : decode cX10_allOver 17 = .ok (.invokevirtual 317, 3) := by decide +kernel
theorem dX10_allOver_20 : decode cX10_allOver 20 = .ok (.aload_n 0, 1) := by decide +kernel
theorem dX10_allOver_21 : decode cX10_allOver 21 = .ok (.getfield 67, 3) := by decide +kernel
theorem dX10_allOver_24 : decode cX10_allOver 24 = .ok (.iconst 0, 1) := by decide +kernel
theorem dX10_allOver_25 : decode cX10_allOver 25 = .ok (.putfield 134, 3) := by decide +kernel
theorem dX10_allOver_28 : decode cX10_allOver 28 = .ok (.sipush 1586, 3) := by decide +kernel
theorem dX10_allOver_31 : decode cX10_allOver 31 = .ok (.istore_n 1, 1) := by decide +kernel
theorem dX10_allOver_32 : decode cX10_allOver 32 = .ok (.iconst 0, 1) := by decide +kernel
theorem dX10_allOver_33 : decode cX10_allOver 33 = .ok (.istore_n 2, 1) := by decide +kernel
theorem dX10_allOver_34 : decode cX10_allOver 34 = .ok (.aload_n 0, 1) := by decide +kernel
theorem dX10_allOver_35 : decode cX10_allOver 35 = .ok (.getfield 67, 3) := by decide +kernel
theorem dX10_allOver_38 : decode cX10_allOver 38 = .ok (.invokevirtual 321, 3) := by decide +kernel
theorem dX10_allOver_41 : decode cX10_allOver 41 = .ok (.ifCond .eq 26, 3) := by decide +kernel
theorem dX10_allOver_44 : decode cX10_allOver 44 = .ok (.iload_n 2, 1) := by decide +kernel
theorem dX10_allOver_45 : decode cX10_allOver 45 = .ok (.iload_n 1, 1) := by decide +kernel
theorem dX10_allOver_46 : decode cX10_allOver 46 = .ok (.if_icmp .ge 21, 3) := by decide +kernel
theorem dX10_allOver_49 : decode cX10_allOver 49 = .ok (.aload_n 0, 1) := by decide +kernel
theorem dX10_allOver_50 : decode cX10_allOver 50 = .ok (.getfield 67, 3) := by decide +kernel
theorem dX10_allOver_53 : decode cX10_allOver 53 = .ok (.aload_n 0, 1) := by decide +kernel
theorem dX10_allOver_54 : decode cX10_allOver 54 = .ok (.getfield 46, 3) := by decide +kernel
theorem dX10_allOver_57 : decode cX10_allOver 57 = .ok (.invokevirtual 249, 3) := by decide +kernel
theorem dX10_allOver_60 : decode cX10_allOver 60 = .ok (.pop, 1) := by decide +kernel
theorem dX10_allOver_61 : decode cX10_allOver 61 = .ok (.iinc 2 1, 3) := by decide +kernel
theorem dX10_allOver_64 : decode cX10_allOver 64 = .ok (.goto (-30), 3) := by decide +kernel
theorem dX10_allOver_67 : decode cX10_allOver 67 = .ok (.iload_n 2, 1) := by decide +kernel
theorem dX10_allOver_68 : decode cX10_allOver 68 = .ok (.ireturn, 1) := by decide +kernel
theorem dX10_finest_0 : decode cX10_finest 0 = .ok (.aload_n 0, 1) := by decide +kernel
theorem dX10_finest_1 : decode cX10_finest 1 = .ok (.iload_n 1, 1) := by decide +kernel
theorem dX10_finest_2 : decode cX10_finest 2 = .ok (.invokevirtual 186, 3) := by decide +kernel
theorem dX10_finest_5 : decode cX10_finest 5 = .ok (.ifCond .eq 26, 3) := by decide +kernel
theorem dX10_finest_8 : decode cX10_finest 8 = .ok (.iload 5, 2) := by decide +kernel
theorem dX10_finest_10 : decode cX10_finest 10 = .ok (.invokestatic 189, 3) := by decide +kernel
theorem dX10_finest_13 : decode cX10_finest 13 = .ok (.ifCond .eq 18, 3) := by decide +kernel
theorem dX10_finest_16 : decode cX10_finest 16 = .ok (.aload_n 0, 1) := by decide +kernel
theorem dX10_finest_17 : decode cX10_finest 17 = .ok (.iload_n 1, 1) := by decide +kernel
theorem dX10_finest_18 : decode cX10_finest 18 = .ok (.iload_n 2, 1) := by decide +kernel
theorem dX10_finest_19 : decode cX10_finest 19 = .ok (.i2l, 1) := by decide +kernel
theorem dX10_finest_20 : decode cX10_finest 20 = .ok (.iload_n 3, 1) := by decide +kernel
theorem dX10_finest_21 : decode cX10_finest 21 = .ok (.i2l, 1) := by decide +kernel
theorem dX10_finest_22 : decode cX10_finest 22 = .ok (.iload 4, 2) := by decide +kernel
theorem dX10_finest_24 : decode cX10_finest 24 = .ok (.i2l, 1) := by decide +kernel
theorem dX10_finest_25 : decode cX10_finest 25 = .ok (.invokevirtual 324, 3) := by decide +kernel
theorem dX10_finest_28 : decode cX10_finest 28 = .ok (.ifCond .ne 6, 3) := by decide +kernel
theorem dX10_finest_31 : decode cX10_finest 31 = .ok (.ldc 177, 2) := by decide +kernel
theorem dX10_finest_33 : decode cX10_finest 33 = .ok (.ireturn, 1) := by decide +kernel
theorem dX10_finest_34 : decode cX10_finest 34 = .ok (.aload_n 0, 1) := by decide +kernel
theorem dX10_finest_35 : decode cX10_finest 35 = .ok (.getfield 54, 3) := by decide +kernel
theorem dX10_finest_38 : decode cX10_finest 38 = .ok (.iload 5, 2) := by decide +kernel
theorem dX10_finest_40 : decode cX10_finest 40 = .ok (.invokevirtual 196, 3) := by decide +kernel
theorem dX10_finest_43 : decode cX10_finest 43 = .ok (.l2i, 1) := by decide +kernel
theorem dX10_finest_44 : decode cX10_finest 44 = .ok (.ireturn, 1) := by decide +kernel
theorem dX10_apart_0 : decode cX10_apart 0 = .ok (.aload_n 0, 1) := by decide +kernel
theorem dX10_apart_1 : decode cX10_apart 1 = .ok (.iload_n 1, 1) := by decide +kernel
theorem dX10_apart_2 : decode cX10_apart 2 = .ok (.invokevirtual 186, 3) := by decide +kernel
theorem dX10_apart_5 : decode cX10_apart 5 = .ok (.ifCond .eq 26, 3) := by decide +kernel
theorem dX10_apart_8 : decode cX10_apart 8 = .ok (.iload 5, 2) := by decide +kernel
theorem dX10_apart_10 : decode cX10_apart 10 = .ok (.invokestatic 189, 3) := by decide +kernel
theorem dX10_apart_13 : decode cX10_apart 13 = .ok (.ifCond .eq 18, 3) := by decide +kernel
theorem dX10_apart_16 : decode cX10_apart 16 = .ok (.aload_n 0, 1) := by decide +kernel
theorem dX10_apart_17 : decode cX10_apart 17 = .ok (.iload_n 1, 1) := by decide +kernel
theorem dX10_apart_18 : decode cX10_apart 18 = .ok (.iload_n 2, 1) := by decide +kernel
theorem dX10_apart_19 : decode cX10_apart 19 = .ok (.i2l, 1) := by decide +kernel
theorem dX10_apart_20 : decode cX10_apart 20 = .ok (.iload_n 3, 1) := by decide +kernel
theorem dX10_apart_21 : decode cX10_apart 21 = .ok (.i2l, 1) := by decide +kernel
theorem dX10_apart_22 : decode cX10_apart 22 = .ok (.iload 4, 2) := by decide +kernel
theorem dX10_apart_24 : decode cX10_apart 24 = .ok (.i2l, 1) := by decide +kernel
theorem dX10_apart_25 : decode cX10_apart 25 = .ok (.invokevirtual 324, 3) := by decide +kernel
theorem dX10_apart_28 : decode cX10_apart 28 = .ok (.ifCond .ne 7, 3) := by decide +kernel
theorem dX10_apart_31 : decode cX10_apart 31 = .ok (.ldc2_w 327, 3) := by decide +kernel
theorem dX10_apart_34 : decode cX10_apart 34 = .ok (.lreturn, 1) := by decide +kernel
theorem dX10_apart_35 : decode cX10_apart 35 = .ok (.aload_n 0, 1) := by decide +kernel
theorem dX10_apart_36 : decode cX10_apart 36 = .ok (.iload 5, 2) := by decide +kernel
theorem dX10_apart_38 : decode cX10_apart 38 = .ok (.invokevirtual 329, 3) := by decide +kernel
theorem dX10_apart_41 : decode cX10_apart 41 = .ok (.lreturn, 1) := by decide +kernel
theorem dX10_fewest_0 : decode cX10_fewest 0 = .ok (.aload_n 0, 1) := by decide +kernel
theorem dX10_fewest_1 : decode cX10_fewest 1 = .ok (.iload_n 1, 1) := by decide +kernel
theorem dX10_fewest_2 : decode cX10_fewest 2 = .ok (.invokevirtual 200, 3) := by decide +kernel
theorem dX10_fewest_5 : decode cX10_fewest 5 = .ok (.ifCond .ne 5, 3) := by decide +kernel
theorem dX10_fewest_8 : decode cX10_fewest 8 = .ok (.iconst (-1), 1) := by decide +kernel
theorem dX10_fewest_9 : decode cX10_fewest 9 = .ok (.ireturn, 1) := by decide +kernel
theorem dX10_fewest_10 : decode cX10_fewest 10 = .ok (.iconst 5, 1) := by decide +kernel
theorem dX10_fewest_11 : decode cX10_fewest 11 = .ok (.istore_n 3, 1) := by decide +kernel
theorem dX10_fewest_12 : decode cX10_fewest 12 = .ok (.iload_n 3, 1) := by decide +kernel
theorem dX10_fewest_13 : decode cX10_fewest 13 = .ok (.bipush 24, 2) := by decide +kernel
theorem dX10_fewest_15 : decode cX10_fewest 15 = .ok (.if_icmp .gt 26, 3) := by decide +kernel
theorem dX10_fewest_18 : decode cX10_fewest 18 = .ok (.aload_n 0, 1) := by decide +kernel
theorem dX10_fewest_19 : decode cX10_fewest 19 = .ok (.getfield 37, 3) := by decide +kernel
theorem dX10_fewest_22 : decode cX10_fewest 22 = .ok (.iload_n 1, 1) := by decide +kernel
theorem dX10_fewest_23 : decode cX10_fewest 23 = .ok (.iload_n 3, 1) := by decide +kernel
theorem dX10_fewest_24 : decode cX10_fewest 24 = .ok (.invokevirtual 203, 3) := by decide +kernel
theorem dX10_fewest_27 : decode cX10_fewest 27 = .ok (.iload_n 2, 1) := by decide +kernel
theorem dX10_fewest_28 : decode cX10_fewest 28 = .ok (.i2l, 1) := by decide +kernel
theorem dX10_fewest_29 : decode cX10_fewest 29 = .ok (.lcmp, 1) := by decide +kernel
theorem dX10_fewest_30 : decode cX10_fewest 30 = .ok (.ifCond .gt 5, 3) := by decide +kernel
theorem dX10_fewest_33 : decode cX10_fewest 33 = .ok (.iload_n 3, 1) := by decide +kernel
theorem dX10_fewest_34 : decode cX10_fewest 34 = .ok (.ireturn, 1) := by decide +kernel
theorem dX10_fewest_35 : decode cX10_fewest 35 = .ok (.iinc 3 1, 3) := by decide +kernel
theorem dX10_fewest_38 : decode cX10_fewest 38 = .ok (.goto (-26), 3) := by decide +kernel
theorem dX10_fewest_41 : decode cX10_fewest 41 = .ok (.iconst (-1), 1) := by decide +kernel
theorem dX10_fewest_42 : decode cX10_fewest 42 = .ok (.ireturn, 1) := by decide +kernel
theorem dX10_sweep_0 : decode cX10_sweep 0 = .ok (.aload_n 0, 1) := by decide +kernel
theorem dX10_sweep_1 : decode cX10_sweep 1 = .ok (.iload_n 1, 1) := by decide +kernel
theorem dX10_sweep_2 : decode cX10_sweep 2 = .ok (.invokevirtual 186, 3) := by decide +kernel
theorem dX10_sweep_5 : decode cX10_sweep 5 = .ok (.ifCond .eq 40, 3) := by decide +kernel
theorem dX10_sweep_8 : decode cX10_sweep 8 = .ok (.getstatic 332, 3) := by decide +kernel
theorem dX10_sweep_11 : decode cX10_sweep 11 = .ok (.iload_n 1, 1) := by decide +kernel
theorem dX10_sweep_12 : decode cX10_sweep 12 = .ok (.aaload, 1) := by decide +kernel
theorem dX10_sweep_13 : decode cX10_sweep 13 = .ok (.getfield 336, 3) := by decide +kernel
theorem dX10_sweep_16 : decode cX10_sweep 16 = .ok (.iconst 1, 1) := by decide +kernel
theorem dX10_sweep_17 : decode cX10_sweep 17 = .ok (.if_icmp .ne 28, 3) := by decide +kernel
theorem dX10_sweep_20 : decode cX10_sweep 20 = .ok (.iload 4, 2) := by decide +kernel
theorem dX10_sweep_22 : decode cX10_sweep 22 = .ok (.iconst 1, 1) := by decide +kernel
theorem dX10_sweep_23 : decode cX10_sweep 23 = .ok (.if_icmp .lt 22, 3) := by decide +kernel
theorem dX10_sweep_26 : decode cX10_sweep 26 = .ok (.iload 4, 2) := by decide +kernel
theorem dX10_sweep_28 : decode cX10_sweep 28 = .ok (.sipush 200, 3) := by decide +kernel
theorem dX10_sweep_31 : decode cX10_sweep 31 = .ok (.if_icmp .gt 14, 3) := by decide +kernel
theorem dX10_sweep_34 : decode cX10_sweep 34 = .ok (.iload 5, 2) := by decide +kernel
theorem dX10_sweep_36 : decode cX10_sweep 36 = .ok (.ifCond .lt 9, 3) := by decide +kernel
theorem dX10_sweep_39 : decode cX10_sweep 39 = .ok (.iload 5, 2) := by decide +kernel
theorem dX10_sweep_41 : decode cX10_sweep 41 = .ok (.iconst 3, 1) := by decide +kernel
theorem dX10_sweep_42 : decode cX10_sweep 42 = .ok (.if_icmp .le 7, 3) := by decide +kernel
theorem dX10_sweep_45 : decode cX10_sweep 45 = .ok (.ldc2_w 292, 3) := by decide +kernel
theorem dX10_sweep_48 : decode cX10_sweep 48 = .ok (.lreturn, 1) := by decide +kernel
theorem dX10_sweep_49 : decode cX10_sweep 49 = .ok (.ldc2_w 339, 3) := by decide +kernel
theorem dX10_sweep_52 : decode cX10_sweep 52 = .ok (.lstore 6, 2) := by decide +kernel
theorem dX10_sweep_54 : decode cX10_sweep 54 = .ok (.ldc2_w 292, 3) := by decide +kernel
theorem dX10_sweep_57 : decode cX10_sweep 57 = .ok (.lstore 8, 2) := by decide +kernel
theorem dX10_sweep_59 : decode cX10_sweep 59 = .ok (.lconst 0, 1) := by decide +kernel
theorem dX10_sweep_60 : decode cX10_sweep 60 = .ok (.lstore 10, 2) := by decide +kernel
theorem dX10_sweep_62 : decode cX10_sweep 62 = .ok (.ldc2_w 292, 3) := by decide +kernel
theorem dX10_sweep_65 : decode cX10_sweep 65 = .ok (.lstore 12, 2) := by decide +kernel
theorem dX10_sweep_67 : decode cX10_sweep 67 = .ok (.lconst 0, 1) := by decide +kernel
theorem dX10_sweep_68 : decode cX10_sweep 68 = .ok (.lstore 14, 2) := by decide +kernel
theorem dX10_sweep_70 : decode cX10_sweep 70 = .ok (.iconst 0, 1) := by decide +kernel
theorem dX10_sweep_71 : decode cX10_sweep 71 = .ok (.istore 16, 2) := by decide +kernel
theorem dX10_sweep_73 : decode cX10_sweep 73 = .ok (.iload 16, 2) := by decide +kernel
theorem dX10_sweep_75 : decode cX10_sweep 75 = .ok (.iload 4, 2) := by decide +kernel
theorem dX10_sweep_77 : decode cX10_sweep 77 = .ok (.if_icmp .ge 95, 3) := by decide +kernel
theorem dX10_sweep_80 : decode cX10_sweep 80 = .ok (.iload_n 2, 1) := by decide +kernel
theorem dX10_sweep_81 : decode cX10_sweep 81 = .ok (.i2l, 1) := by decide +kernel
theorem dX10_sweep_82 : decode cX10_sweep 82 = .ok (.iload 16, 2) := by decide +kernel
theorem dX10_sweep_84 : decode cX10_sweep 84 = .ok (.i2l, 1) := by decide +kernel
theorem dX10_sweep_85 : decode cX10_sweep 85 = .ok (.iload_n 3, 1) := by decide +kernel
theorem dX10_sweep_86 : decode cX10_sweep 86 = .ok (.i2l, 1) := by decide +kernel
theorem dX10_sweep_87 : decode cX10_sweep 87 = .ok (.lmul, 1) := by decide +kernel
theorem dX10_sweep_88 : decode cX10_sweep 88 = .ok (.ladd, 1) := by decide +kernel
theorem dX10_sweep_89 : decode cX10_sweep 89 = .ok (.lstore 17, 2) := by decide +kernel
theorem dX10_sweep_91 : decode cX10_sweep 91 = .ok (.aload_n 0, 1) := by decide +kernel
theorem dX10_sweep_92 : decode cX10_sweep 92 = .ok (.iload_n 1, 1) := by decide +kernel
theorem dX10_sweep_93 : decode cX10_sweep 93 = .ok (.lload 17, 2) := by decide +kernel
theorem dX10_sweep_95 : decode cX10_sweep 95 = .ok (.lconst 0, 1) := by decide +kernel
theorem dX10_sweep_96 : decode cX10_sweep 96 = .ok (.lconst 0, 1) := by decide +kernel
theorem dX10_sweep_97 : decode cX10_sweep 97 = .ok (.invokevirtual 324, 3) := by decide +kernel
theorem dX10_sweep_100 : decode cX10_sweep 100 = .ok (.ifCond .ne 12, 3) := by decide +kernel
theorem dX10_sweep_103 : decode cX10_sweep 103 = .ok (.lload 14, 2) := by decide +kernel
theorem dX10_sweep_105 : decode cX10_sweep 105 = .ok (.lconst 1, 1) := by decide +kernel
theorem dX10_sweep_106 : decode cX10_sweep 106 = .ok (.ladd, 1) := by decide +kernel
theorem dX10_sweep_107 : decode cX10_sweep 107 = .ok (.lstore 14, 2) := by decide +kernel
theorem dX10_sweep_109 : decode cX10_sweep 109 = .ok (.goto 57, 3) := by decide +kernel
theorem dX10_sweep_112 : decode cX10_sweep 112 = .ok (.lload 10, 2) := by decide +kernel
theorem dX10_sweep_114 : decode cX10_sweep 114 = .ok (.aload_n 0, 1) := by decide +kernel
theorem dX10_sweep_115 : decode cX10_sweep 115 = .ok (.getfield 46, 3) := by decide +kernel
theorem dX10_sweep_118 : decode cX10_sweep 118 = .ok (.getfield 341, 3) := by decide +kernel
theorem dX10_sweep_121 : decode cX10_sweep 121 = .ok (.lload 12, 2) := by decide +kernel
theorem dX10_sweep_123 : decode cX10_sweep 123 = .ok (.lcmp, 1) := by decide +kernel
theorem dX10_sweep_124 : decode cX10_sweep 124 = .ok (.ifCond .ge 7, 3) := by decide +kernel
theorem dX10_sweep_127 : decode cX10_sweep 127 = .ok (.lconst 1, 1) := by decide +kernel
theorem dX10_sweep_128 : decode cX10_sweep 128 = .ok (.goto 4, 3) := by decide +kernel
theorem dX10_sweep_131 : decode cX10_sweep 131 = .ok (.lconst 0, 1) := by decide +kernel
theorem dX10_sweep_132 : decode cX10_sweep 132 = .ok (.ladd, 1) := by decide +kernel
theorem dX10_sweep_133 : decode cX10_sweep 133 = .ok (.lstore 10, 2) := by decide +kernel
theorem dX10_sweep_135 : decode cX10_sweep 135 = .ok (.aload_n 0, 1) := by decide +kernel
theorem dX10_sweep_136 : decode cX10_sweep 136 = .ok (.getfield 46, 3) := by decide +kernel
theorem dX10_sweep_139 : decode cX10_sweep 139 = .ok (.getfield 341, 3) := by decide +kernel
theorem dX10_sweep_142 : decode cX10_sweep 142 = .ok (.lstore 12, 2) := by decide +kernel
theorem dX10_sweep_144 : decode cX10_sweep 144 = .ok (.aload_n 0, 1) := by decide +kernel
theorem dX10_sweep_145 : decode cX10_sweep 145 = .ok (.iconst 0, 1) := by decide +kernel
theorem dX10_sweep_146 : decode cX10_sweep 146 = .ok (.invokevirtual 329, 3) := by decide +kernel
theorem dX10_sweep_149 : decode cX10_sweep 149 = .ok (.lload 6, 2) := by decide +kernel
theorem dX10_sweep_151 : decode cX10_sweep 151 = .ok (.lcmp, 1) := by decide +kernel
theorem dX10_sweep_152 : decode cX10_sweep 152 = .ok (.ifCond .le 14, 3) := by decide +kernel
theorem dX10_sweep_155 : decode cX10_sweep 155 = .ok (.aload_n 0, 1) := by decide +kernel
theorem dX10_sweep_156 : decode cX10_sweep 156 = .ok (.iconst 0, 1) := by decide +kernel
theorem dX10_sweep_157 : decode cX10_sweep 157 = .ok (.invokevirtual 329, 3) := by decide +kernel
theorem dX10_sweep_160 : decode cX10_sweep 160 = .ok (.lstore 6, 2) := by decide +kernel
theorem dX10_sweep_162 : decode cX10_sweep 162 = .ok (.lload 17, 2) := by decide +kernel
theorem dX10_sweep_164 : decode cX10_sweep 164 = .ok (.lstore 8, 2) := by decide +kernel
theorem dX10_sweep_166 : decode cX10_sweep 166 = .ok (.iinc 16 1, 3) := by decide +kernel
theorem dX10_sweep_169 : decode cX10_sweep 169 = .ok (.goto (-96), 3) := by decide +kernel
theorem dX10_sweep_172 : decode cX10_sweep 172 = .ok (.iload 5, 2) := by decide +kernel
theorem dX10_sweep_174 : decode cX10_sweep 174 = .ok (.tableswitch 48 0 2 #[26, 42, 45], 26) := by decide +kernel
theorem dX10_sweep_200 : decode cX10_sweep 200 = .ok (.lload 6, 2) := by decide +kernel
theorem dX10_sweep_202 : decode cX10_sweep 202 = .ok (.lconst 0, 1) := by decide +kernel
theorem dX10_sweep_203 : decode cX10_sweep 203 = .ok (.lcmp, 1) := by decide +kernel
theorem dX10_sweep_204 : decode cX10_sweep 204 = .ok (.ifCond .ge 9, 3) := by decide +kernel
theorem dX10_sweep_207 : decode cX10_sweep 207 = .ok (.ldc2_w 292, 3) := by decide +kernel
theorem dX10_sweep_210 : decode cX10_sweep 210 = .ok (.goto 5, 3) := by decide +kernel
theorem dX10_sweep_213 : decode cX10_sweep 213 = .ok (.lload 6, 2) := by decide +kernel
theorem dX10_sweep_215 : decode cX10_sweep 215 = .ok (.lreturn, 1) := by decide +kernel
theorem dX10_sweep_216 : decode cX10_sweep 216 = .ok (.lload 8, 2) := by decide +kernel
theorem dX10_sweep_218 : decode cX10_sweep 218 = .ok (.lreturn, 1) := by decide +kernel
theorem dX10_sweep_219 : decode cX10_sweep 219 = .ok (.lload 10, 2) := by decide +kernel
theorem dX10_sweep_221 : decode cX10_sweep 221 = .ok (.lreturn, 1) := by decide +kernel
theorem dX10_sweep_222 : decode cX10_sweep 222 = .ok (.lload 14, 2) := by decide +kernel
theorem dX10_sweep_224 : decode cX10_sweep 224 = .ok (.lreturn, 1) := by decide +kernel
theorem dX10_image_0 : decode cX10_image 0 = .ok (.aload_n 0, 1) := by decide +kernel
theorem dX10_image_1 : decode cX10_image 1 = .ok (.getfield 110, 3) := by decide +kernel
theorem dX10_image_4 : decode cX10_image 4 = .ok (.ifCond .ne 5, 3) := by decide +kernel
theorem dX10_image_7 : decode cX10_image 7 = .ok (.iconst (-1), 1) := by decide +kernel
theorem dX10_image_8 : decode cX10_image 8 = .ok (.ireturn, 1) := by decide +kernel
theorem dX10_image_9 : decode cX10_image 9 = .ok (.aload_n 0, 1) := by decide +kernel
theorem dX10_image_10 : decode cX10_image 10 = .ok (.getfield 64, 3) := by decide +kernel
theorem dX10_image_13 : decode cX10_image 13 = .ok (.aload_n 0, 1) := by decide +kernel
theorem dX10_image_14 : decode cX10_image 14 = .ok (.getfield 60, 3) := by decide +kernel
theorem dX10_image_17 : decode cX10_image 17 = .ok (.invokevirtual 317, 3) := by decide +kernel
theorem dX10_image_20 : decode cX10_image 20 = .ok (.aload_n 0, 1) := by decide +kernel
theorem dX10_image_21 : decode cX10_image 21 = .ok (.iconst 1, 1) := by decide +kernel
theorem dX10_image_22 : decode cX10_image 22 = .ok (.putfield 113, 3) := by decide +kernel
theorem dX10_image_25 : decode cX10_image 25 = .ok (.aload_n 0, 1) := by decide +kernel
theorem dX10_image_26 : decode cX10_image 26 = .ok (.getfield 60, 3) := by decide +kernel
theorem dX10_image_29 : decode cX10_image 29 = .ok (.getfield 125, 3) := by decide +kernel
theorem dX10_image_32 : decode cX10_image 32 = .ok (.ireturn, 1) := by decide +kernel
theorem dX10_back_0 : decode cX10_back 0 = .ok (.aload_n 0, 1) := by decide +kernel
theorem dX10_back_1 : decode cX10_back 1 = .ok (.getfield 113, 3) := by decide +kernel
theorem dX10_back_4 : decode cX10_back 4 = .ok (.ifCond .ne 5, 3) := by decide +kernel
theorem dX10_back_7 : decode cX10_back 7 = .ok (.iconst (-1), 1) := by decide +kernel
theorem dX10_back_8 : decode cX10_back 8 = .ok (.ireturn, 1) := by decide +kernel
theorem dX10_back_9 : decode cX10_back 9 = .ok (.aload_n 0, 1) := by decide +kernel
theorem dX10_back_10 : decode cX10_back 10 = .ok (.getfield 60, 3) := by decide +kernel
theorem dX10_back_13 : decode cX10_back 13 = .ok (.aload_n 0, 1) := by decide +kernel
theorem dX10_back_14 : decode cX10_back 14 = .ok (.getfield 64, 3) := by decide +kernel
theorem dX10_back_17 : decode cX10_back 17 = .ok (.invokevirtual 317, 3) := by decide +kernel
theorem dX10_back_20 : decode cX10_back 20 = .ok (.aload_n 0, 1) := by decide +kernel
theorem dX10_back_21 : decode cX10_back 21 = .ok (.getfield 60, 3) := by decide +kernel
theorem dX10_back_24 : decode cX10_back 24 = .ok (.getfield 125, 3) := by decide +kernel
theorem dX10_back_27 : decode cX10_back 27 = .ok (.ireturn, 1) := by decide +kernel
theorem dX10_waits_0 : decode cX10_waits 0 = .ok (.aload_n 0, 1) := by decide +kernel
theorem dX10_waits_1 : decode cX10_waits 1 = .ok (.getfield 110, 3) := by decide +kernel
theorem dX10_waits_4 : decode cX10_waits 4 = .ok (.ifCond .ne 5, 3) := by decide +kernel
theorem dX10_waits_7 : decode cX10_waits 7 = .ok (.iconst (-1), 1) := by decide +kernel
theorem dX10_waits_8 : decode cX10_waits 8 = .ok (.ireturn, 1) := by decide +kernel
theorem dX10_waits_9 : decode cX10_waits 9 = .ok (.iload_n 1, 1) := by decide +kernel
theorem dX10_waits_10 : decode cX10_waits 10 = .ok (.iconst (-1), 1) := by decide +kernel
theorem dX10_waits_11 : decode cX10_waits 11 = .ok (.if_icmp .ne 14, 3) := by decide +kernel
theorem dX10_waits_14 : decode cX10_waits 14 = .ok (.aload_n 0, 1) := by decide +kernel
theorem dX10_waits_15 : decode cX10_waits 15 = .ok (.getfield 60, 3) := by decide +kernel
theorem dX10_waits_18 : decode cX10_waits 18 = .ok (.iconst 0, 1) := by decide +kernel
theorem dX10_waits_19 : decode cX10_waits 19 = .ok (.invokevirtual 131, 3) := by decide +kernel
theorem dX10_waits_22 : decode cX10_waits 22 = .ok (.goto 11, 3) := by decide +kernel
theorem dX10_waits_25 : decode cX10_waits 25 = .ok (.aload_n 0, 1) := by decide +kernel
theorem dX10_waits_26 : decode cX10_waits 26 = .ok (.getfield 60, 3) := by decide +kernel
theorem dX10_waits_29 : decode cX10_waits 29 = .ok (.iload_n 1, 1) := by decide +kernel
theorem dX10_waits_30 : decode cX10_waits 30 = .ok (.invokevirtual 344, 3) := by decide +kernel
theorem dX10_waits_33 : decode cX10_waits 33 = .ok (.ireturn, 1) := by decide +kernel
theorem dX10_status_0 : decode cX10_status 0 = .ok (.iload_n 1, 1) := by decide +kernel
theorem dX10_status_1 : decode cX10_status 1 = .ok (.ifCond .lt 21, 3) := by decide +kernel
theorem dX10_status_4 : decode cX10_status 4 = .ok (.iload_n 1, 1) := by decide +kernel
theorem dX10_status_5 : decode cX10_status 5 = .ok (.aload_n 0, 1) := by decide +kernel
theorem dX10_status_6 : decode cX10_status 6 = .ok (.getfield 70, 3) := by decide +kernel
theorem dX10_status_9 : decode cX10_status 9 = .ok (.arraylength, 1) := by decide +kernel
theorem dX10_status_10 : decode cX10_status 10 = .ok (.if_icmp .ge 12, 3) := by decide +kernel
theorem dX10_status_13 : decode cX10_status 13 = .ok (.aload_n 0, 1) := by decide +kernel
theorem dX10_status_14 : decode cX10_status 14 = .ok (.getfield 70, 3) := by decide +kernel
theorem dX10_status_17 : decode cX10_status 17 = .ok (.iload_n 1, 1) := by decide +kernel
theorem dX10_status_18 : decode cX10_status 18 = .ok (.iaload, 1) := by decide +kernel
theorem dX10_status_19 : decode cX10_status 19 = .ok (.goto 4, 3) := by decide +kernel
theorem dX10_status_22 : decode cX10_status 22 = .ok (.iconst (-1), 1) := by decide +kernel
theorem dX10_status_23 : decode cX10_status 23 = .ok (.ireturn, 1) := by decide +kernel
theorem dX10_most_0 : decode cX10_most 0 = .ok (.aload_n 0, 1) := by decide +kernel
theorem dX10_most_1 : decode cX10_most 1 = .ok (.getfield 110, 3) := by decide +kernel
theorem dX10_most_4 : decode cX10_most 4 = .ok (.ifCond .ne 7, 3) := by decide +kernel
theorem dX10_most_7 : decode cX10_most 7 = .ok (.ldc2_w 339, 3) := by decide +kernel
theorem dX10_most_10 : decode cX10_most 10 = .ok (.lreturn, 1) := by decide +kernel
theorem dX10_most_11 : decode cX10_most 11 = .ok (.iload_n 1, 1) := by decide +kernel
theorem dX10_most_12 : decode cX10_most 12 = .ok (.tableswitch 81 0 3 #[32, 45, 58, 66], 32) := by decide +kernel
theorem dX10_most_44 : decode cX10_most 44 = .ok (.aload_n 0, 1) := by decide +kernel
theorem dX10_most_45 : decode cX10_most 45 = .ok (.getfield 60, 3) := by decide +kernel
theorem dX10_most_48 : decode cX10_most 48 = .ok (.aload_n 0, 1) := by decide +kernel
theorem dX10_most_49 : decode cX10_most 49 = .ok (.getfield 46, 3) := by decide +kernel
theorem dX10_most_52 : decode cX10_most 52 = .ok (.iconst 1, 1) := by decide +kernel
theorem dX10_most_53 : decode cX10_most 53 = .ok (.invokevirtual 347, 3) := by decide +kernel
theorem dX10_most_56 : decode cX10_most 56 = .ok (.lreturn, 1) := by decide +kernel
theorem dX10_most_57 : decode cX10_most 57 = .ok (.aload_n 0, 1) := by decide +kernel
theorem dX10_most_58 : decode cX10_most 58 = .ok (.getfield 60, 3) := by decide +kernel
theorem dX10_most_61 : decode cX10_most 61 = .ok (.aload_n 0, 1) := by decide +kernel
theorem dX10_most_62 : decode cX10_most 62 = .ok (.getfield 46, 3) := by decide +kernel
theorem dX10_most_65 : decode cX10_most 65 = .ok (.iconst 0, 1) := by decide +kernel
theorem dX10_most_66 : decode cX10_most 66 = .ok (.invokevirtual 347, 3) := by decide +kernel
theorem dX10_most_69 : decode cX10_most 69 = .ok (.lreturn, 1) := by decide +kernel
theorem dX10_most_70 : decode cX10_most 70 = .ok (.aload_n 0, 1) := by decide +kernel
theorem dX10_most_71 : decode cX10_most 71 = .ok (.getfield 60, 3) := by decide +kernel
theorem dX10_most_74 : decode cX10_most 74 = .ok (.invokevirtual 351, 3) := by decide +kernel
theorem dX10_most_77 : decode cX10_most 77 = .ok (.lreturn, 1) := by decide +kernel
theorem dX10_most_78 : decode cX10_most 78 = .ok (.aload_n 0, 1) := by decide +kernel
theorem dX10_most_79 : decode cX10_most 79 = .ok (.getfield 60, 3) := by decide +kernel
theorem dX10_most_82 : decode cX10_most 82 = .ok (.aload_n 0, 1) := by decide +kernel
theorem dX10_most_83 : decode cX10_most 83 = .ok (.getfield 37, 3) := by decide +kernel
theorem dX10_most_86 : decode cX10_most 86 = .ok (.getfield 116, 3) := by decide +kernel
theorem dX10_most_89 : decode cX10_most 89 = .ok (.invokevirtual 355, 3) := by decide +kernel
theorem dX10_most_92 : decode cX10_most 92 = .ok (.lreturn, 1) := by decide +kernel
theorem dX10_most_93 : decode cX10_most 93 = .ok (.ldc2_w 339, 3) := by decide +kernel
theorem dX10_most_96 : decode cX10_most 96 = .ok (.lreturn, 1) := by decide +kernel
theorem dX10_count_0 : decode cX10_count 0 = .ok (.iload_n 1, 1) := by decide +kernel
theorem dX10_count_1 : decode cX10_count 1 = .ok (.ifCond .ne 13, 3) := by decide +kernel
theorem dX10_count_4 : decode cX10_count 4 = .ok (.aload_n 0, 1) := by decide +kernel
theorem dX10_count_5 : decode cX10_count 5 = .ok (.getfield 12, 3) := by decide +kernel
theorem dX10_count_8 : decode cX10_count 8 = .ok (.getfield 78, 3) := by decide +kernel
theorem dX10_count_11 : decode cX10_count 11 = .ok (.goto 4, 3) := by decide +kernel
theorem dX10_count_14 : decode cX10_count 14 = .ok (.iconst (-1), 1) := by decide +kernel
theorem dX10_count_15 : decode cX10_count 15 = .ok (.ireturn, 1) := by decide +kernel
theorem dX10_isMode_0 : decode cX10_isMode 0 = .ok (.aload_n 0, 1) := by decide +kernel
theorem dX10_isMode_1 : decode cX10_isMode 1 = .ok (.getfield 110, 3) := by decide +kernel
theorem dX10_isMode_4 : decode cX10_isMode 4 = .ok (.ifCond .eq 16, 3) := by decide +kernel
theorem dX10_isMode_7 : decode cX10_isMode 7 = .ok (.iload_n 1, 1) := by decide +kernel
theorem dX10_isMode_8 : decode cX10_isMode 8 = .ok (.ifCond .lt 12, 3) := by decide +kernel
theorem dX10_isMode_11 : decode cX10_isMode 11 = .ok (.iload_n 1, 1) := by decide +kernel
theorem dX10_isMode_12 : decode cX10_isMode 12 = .ok (.iconst 3, 1) := by decide +kernel
theorem dX10_isMode_13 : decode cX10_isMode 13 = .ok (.if_icmp .ge 7, 3) := by decide +kernel
theorem dX10_isMode_16 : decode cX10_isMode 16 = .ok (.iconst 1, 1) := by decide +kernel
theorem dX10_isMode_17 : decode cX10_isMode 17 = .ok (.goto 4, 3) := by decide +kernel
theorem dX10_isMode_20 : decode cX10_isMode 20 = .ok (.iconst 0, 1) := by decide +kernel
theorem dX10_isMode_21 : decode cX10_isMode 21 = .ok (.ireturn, 1) := by decide +kernel
theorem dX10_isKind_0 : decode cX10_isKind 0 = .ok (.aload_n 0, 1) := by decide +kernel
theorem dX10_isKind_1 : decode cX10_isKind 1 = .ok (.getfield 110, 3) := by decide +kernel
theorem dX10_isKind_4 : decode cX10_isKind 4 = .ok (.ifCond .eq 19, 3) := by decide +kernel
theorem dX10_isKind_7 : decode cX10_isKind 7 = .ok (.iload_n 1, 1) := by decide +kernel
theorem dX10_isKind_8 : decode cX10_isKind 8 = .ok (.ifCond .lt 15, 3) := by decide +kernel
theorem dX10_isKind_11 : decode cX10_isKind 11 = .ok (.iload_n 1, 1) := by decide +kernel
theorem dX10_isKind_12 : decode cX10_isKind 12 = .ok (.getstatic 332, 3) := by decide +kernel
theorem dX10_isKind_15 : decode cX10_isKind 15 = .ok (.arraylength, 1) := by decide +kernel
theorem dX10_isKind_16 : decode cX10_isKind 16 = .ok (.if_icmp .ge 7, 3) := by decide +kernel
theorem dX10_isKind_19 : decode cX10_isKind 19 = .ok (.iconst 1, 1) := by decide +kernel
theorem dX10_isKind_20 : decode cX10_isKind 20 = .ok (.goto 4, 3) := by decide +kernel
theorem dX10_isKind_23 : decode cX10_isKind 23 = .ok (.iconst 0, 1) := by decide +kernel
theorem dX10_isKind_24 : decode cX10_isKind 24 = .ok (.ireturn, 1) := by decide +kernel
theorem dX10_isBounded_0 : decode cX10_isBounded 0 = .ok (.aload_n 0, 1) := by decide +kernel
theorem dX10_isBounded_1 : decode cX10_isBounded 1 = .ok (.getfield 110, 3) := by decide +kernel
theorem dX10_isBounded_4 : decode cX10_isBounded 4 = .ok (.ifCond .eq 17, 3) := by decide +kernel
theorem dX10_isBounded_7 : decode cX10_isBounded 7 = .ok (.iload_n 1, 1) := by decide +kernel
theorem dX10_isBounded_8 : decode cX10_isBounded 8 = .ok (.ifCond .eq 9, 3) := by decide +kernel
theorem dX10_isBounded_11 : decode cX10_isBounded 11 = .ok (.iload_n 1, 1) := by decide +kernel
theorem dX10_isBounded_12 : decode cX10_isBounded 12 = .ok (.bipush 6, 2) := by decide +kernel
theorem dX10_isBounded_14 : decode cX10_isBounded 14 = .ok (.if_icmp .ne 7, 3) := by decide +kernel
theorem dX10_isBounded_17 : decode cX10_isBounded 17 = .ok (.iconst 1, 1) := by decide +kernel
theorem dX10_isBounded_18 : decode cX10_isBounded 18 = .ok (.goto 4, 3) := by decide +kernel
theorem dX10_isBounded_21 : decode cX10_isBounded 21 = .ok (.iconst 0, 1) := by decide +kernel
theorem dX10_isBounded_22 : decode cX10_isBounded 22 = .ok (.ireturn, 1) := by decide +kernel
theorem dX10_isJob_0 : decode cX10_isJob 0 = .ok (.aload_n 0, 1) := by decide +kernel
theorem dX10_isJob_1 : decode cX10_isJob 1 = .ok (.getfield 110, 3) := by decide +kernel
theorem dX10_isJob_4 : decode cX10_isJob 4 = .ok (.ifCond .eq 22, 3) := by decide +kernel
theorem dX10_isJob_7 : decode cX10_isJob 7 = .ok (.iload_n 1, 1) := by decide +kernel
theorem dX10_isJob_8 : decode cX10_isJob 8 = .ok (.ifCond .lt 18, 3) := by decide +kernel
theorem dX10_isJob_11 : decode cX10_isJob 11 = .ok (.iload_n 1, 1) := by decide +kernel
theorem dX10_isJob_12 : decode cX10_isJob 12 = .ok (.aload_n 0, 1) := by decide +kernel
theorem dX10_isJob_13 : decode cX10_isJob 13 = .ok (.getfield 60, 3) := by decide +kernel
theorem dX10_isJob_16 : decode cX10_isJob 16 = .ok (.getfield 128, 3) := by decide +kernel
theorem dX10_isJob_19 : decode cX10_isJob 19 = .ok (.if_icmp .ge 7, 3) := by decide +kernel
theorem dX10_isJob_22 : decode cX10_isJob 22 = .ok (.iconst 1, 1) := by decide +kernel
theorem dX10_isJob_23 : decode cX10_isJob 23 = .ok (.goto 4, 3) := by decide +kernel
theorem dX10_isJob_26 : decode cX10_isJob 26 = .ok (.iconst 0, 1) := by decide +kernel
theorem dX10_isJob_27 : decode cX10_isJob 27 = .ok (.ireturn, 1) := by decide +kernel
theorem dX10_hasBegun_0 : decode cX10_hasBegun 0 = .ok (.aload_n 0, 1) := by decide +kernel
theorem dX10_hasBegun_1 : decode cX10_hasBegun 1 = .ok (.iload_n 1, 1) := by decide +kernel
theorem dX10_hasBegun_2 : decode cX10_hasBegun 2 = .ok (.invokevirtual 227, 3) := by decide +kernel
theorem dX10_hasBegun_5 : decode cX10_hasBegun 5 = .ok (.ifCond .eq 33, 3) := by decide +kernel
theorem dX10_hasBegun_8 : decode cX10_hasBegun 8 = .ok (.aload_n 0, 1) := by decide +kernel
theorem dX10_hasBegun_9 : decode cX10_hasBegun 9 = .ok (.getfield 60, 3) := by decide +kernel
theorem dX10_hasBegun_12 : decode cX10_hasBegun 12 = .ok (.getfield 233, 3) := by decide +kernel
theorem dX10_hasBegun_15 : decode cX10_hasBegun 15 = .ok (.iload_n 1, 1) := by decide +kernel
theorem dX10_hasBegun_16 : decode cX10_hasBegun 16 = .ok (.iaload, 1) := by decide +kernel
theorem dX10_hasBegun_17 : decode cX10_hasBegun 17 = .ok (.iconst 1, 1) := by decide +kernel
theorem dX10_hasBegun_18 : decode cX10_hasBegun 18 = .ok (.if_icmp .eq 16, 3) := by decide +kernel
theorem dX10_hasBegun_21 : decode cX10_hasBegun 21 = .ok (.aload_n 0, 1) := by decide +kernel
theorem dX10_hasBegun_22 : decode cX10_hasBegun 22 = .ok (.getfield 60, 3) := by decide +kernel
theorem dX10_hasBegun_25 : decode cX10_hasBegun 25 = .ok (.getfield 233, 3) := by decide +kernel
theorem dX10_hasBegun_28 : decode cX10_hasBegun 28 = .ok (.iload_n 1, 1) := by decide +kernel
theorem dX10_hasBegun_29 : decode cX10_hasBegun 29 = .ok (.iaload, 1) := by decide +kernel
theorem dX10_hasBegun_30 : decode cX10_hasBegun 30 = .ok (.iconst 2, 1) := by decide +kernel
theorem dX10_hasBegun_31 : decode cX10_hasBegun 31 = .ok (.if_icmp .ne 7, 3) := by decide +kernel
theorem dX10_hasBegun_34 : decode cX10_hasBegun 34 = .ok (.iconst 1, 1) := by decide +kernel
theorem dX10_hasBegun_35 : decode cX10_hasBegun 35 = .ok (.goto 4, 3) := by decide +kernel
theorem dX10_hasBegun_38 : decode cX10_hasBegun 38 = .ok (.iconst 0, 1) := by decide +kernel
theorem dX10_hasBegun_39 : decode cX10_hasBegun 39 = .ok (.ireturn, 1) := by decide +kernel
theorem dX10_isOperand_0 : decode cX10_isOperand 0 = .ok (.iload_n 0, 1) := by decide +kernel
theorem dX10_isOperand_1 : decode cX10_isOperand 1 = .ok (.ifCond .lt 12, 3) := by decide +kernel
theorem dX10_isOperand_4 : decode cX10_isOperand 4 = .ok (.iload_n 0, 1) := by decide +kernel
theorem dX10_isOperand_5 : decode cX10_isOperand 5 = .ok (.iconst 3, 1) := by decide +kernel
theorem dX10_isOperand_6 : decode cX10_isOperand 6 = .ok (.if_icmp .ge 7, 3) := by decide +kernel
theorem dX10_isOperand_9 : decode cX10_isOperand 9 = .ok (.iconst 1, 1) := by decide +kernel
theorem dX10_isOperand_10 : decode cX10_isOperand 10 = .ok (.goto 4, 3) := by decide +kernel
theorem dX10_isOperand_13 : decode cX10_isOperand 13 = .ok (.iconst 0, 1) := by decide +kernel
theorem dX10_isOperand_14 : decode cX10_isOperand 14 = .ok (.ireturn, 1) := by decide +kernel
theorem dX10_isEither_0 : decode cX10_isEither 0 = .ok (.iload_n 0, 1) := by decide +kernel
theorem dX10_isEither_1 : decode cX10_isEither 1 = .ok (.ifCond .eq 8, 3) := by decide +kernel
theorem dX10_isEither_4 : decode cX10_isEither 4 = .ok (.iload_n 0, 1) := by decide +kernel
theorem dX10_isEither_5 : decode cX10_isEither 5 = .ok (.iconst 1, 1) := by decide +kernel
theorem dX10_isEither_6 : decode cX10_isEither 6 = .ok (.if_icmp .ne 7, 3) := by decide +kernel
theorem dX10_isEither_9 : decode cX10_isEither 9 = .ok (.iconst 1, 1) := by decide +kernel
theorem dX10_isEither_10 : decode cX10_isEither 10 = .ok (.goto 4, 3) := by decide +kernel
theorem dX10_isEither_13 : decode cX10_isEither 13 = .ok (.iconst 0, 1) := by decide +kernel
theorem dX10_isEither_14 : decode cX10_isEither 14 = .ok (.ireturn, 1) := by decide +kernel
theorem dX10_kindOf_0 : decode cX10_kindOf 0 = .ok (.getstatic 332, 3) := by decide +kernel
theorem dX10_kindOf_3 : decode cX10_kindOf 3 = .ok (.aload_n 0, 1) := by decide +kernel
theorem dX10_kindOf_4 : decode cX10_kindOf 4 = .ok (.getfield 60, 3) := by decide +kernel
theorem dX10_kindOf_7 : decode cX10_kindOf 7 = .ok (.getfield 260, 3) := by decide +kernel
theorem dX10_kindOf_10 : decode cX10_kindOf 10 = .ok (.iload_n 1, 1) := by decide +kernel
theorem dX10_kindOf_11 : decode cX10_kindOf 11 = .ok (.iaload, 1) := by decide +kernel
theorem dX10_kindOf_12 : decode cX10_kindOf 12 = .ok (.aaload, 1) := by decide +kernel
theorem dX10_kindOf_13 : decode cX10_kindOf 13 = .ok (.areturn, 1) := by decide +kernel
theorem dX10_refuse_0 : decode cX10_refuse 0 = .ok (.aload_n 0, 1) := by decide +kernel
theorem dX10_refuse_1 : decode cX10_refuse 1 = .ok (.getfield 70, 3) := by decide +kernel
theorem dX10_refuse_4 : decode cX10_refuse 4 = .ok (.iload_n 1, 1) := by decide +kernel
theorem dX10_refuse_5 : decode cX10_refuse 5 = .ok (.dup2, 1) := by decide +kernel
theorem dX10_refuse_6 : decode cX10_refuse 6 = .ok (.iaload, 1) := by decide +kernel
theorem dX10_refuse_7 : decode cX10_refuse 7 = .ok (.iconst 1, 1) := by decide +kernel
theorem dX10_refuse_8 : decode cX10_refuse 8 = .ok (.iadd, 1) := by decide +kernel
theorem dX10_refuse_9 : decode cX10_refuse 9 = .ok (.iastore, 1) := by decide +kernel
theorem dX10_refuse_10 : decode cX10_refuse 10 = .ok (.iconst (-1), 1) := by decide +kernel
theorem dX10_refuse_11 : decode cX10_refuse 11 = .ok (.ireturn, 1) := by decide +kernel
theorem dX10_allow_0 : decode cX10_allow 0 = .ok (.aload_n 0, 1) := by decide +kernel
theorem dX10_allow_1 : decode cX10_allow 1 = .ok (.getfield 70, 3) := by decide +kernel
theorem dX10_allow_4 : decode cX10_allow 4 = .ok (.iload_n 1, 1) := by decide +kernel
theorem dX10_allow_5 : decode cX10_allow 5 = .ok (.dup2, 1) := by decide +kernel
theorem dX10_allow_6 : decode cX10_allow 6 = .ok (.iaload, 1) := by decide +kernel
theorem dX10_allow_7 : decode cX10_allow 7 = .ok (.iconst 1, 1) := by decide +kernel
theorem dX10_allow_8 : decode cX10_allow 8 = .ok (.iadd, 1) := by decide +kernel
theorem dX10_allow_9 : decode cX10_allow 9 = .ok (.iastore, 1) := by decide +kernel
theorem dX10_allow_10 : decode cX10_allow 10 = .ok (.iconst 0, 1) := by decide +kernel
theorem dX10_allow_11 : decode cX10_allow 11 = .ok (.ireturn, 1) := by decide +kernel
theorem dX10_linesFit_0 : decode cX10_linesFit 0 = .ok (.iconst 0, 1) := by decide +kernel
theorem dX10_linesFit_1 : decode cX10_linesFit 1 = .ok (.istore_n 1, 1) := by decide +kernel
theorem dX10_linesFit_2 : decode cX10_linesFit 2 = .ok (.iload_n 1, 1) := by decide +kernel
theorem dX10_linesFit_3 : decode cX10_linesFit 3 = .ok (.aload_n 0, 1) := by decide +kernel
theorem dX10_linesFit_4 : decode cX10_linesFit 4 = .ok (.getfield 30, 3) := by decide +kernel
theorem dX10_linesFit_7 : decode cX10_linesFit 7 = .ok (.getfield 221, 3) := by decide +kernel
theorem dX10_linesFit_10 : decode cX10_linesFit 10 = .ok (.if_icmp .ge 79, 3) := by decide +kernel
theorem dX10_linesFit_13 : decode cX10_linesFit 13 = .ok (.iload_n 1, 1) := by decide +kernel
theorem dX10_linesFit_14 : decode cX10_linesFit 14 = .ok (.iconst 3, 1) := by decide +kernel
theorem dX10_linesFit_15 : decode cX10_linesFit 15 = .ok (.imul, 1) := by decide +kernel
theorem dX10_linesFit_16 : decode cX10_linesFit 16 = .ok (.istore_n 2, 1) := by decide +kernel
theorem dX10_linesFit_17 : decode cX10_linesFit 17 = .ok (.aload_n 0, 1) := by decide +kernel
theorem dX10_linesFit_18 : decode cX10_linesFit 18 = .ok (.getfield 30, 3) := by decide +kernel
theorem dX10_linesFit_21 : decode cX10_linesFit 21 = .ok (.iload_n 1, 1) := by decide +kernel
theorem dX10_linesFit_22 : decode cX10_linesFit 22 = .ok (.invokevirtual 358, 3) := by decide +kernel
theorem dX10_linesFit_25 : decode cX10_linesFit 25 = .ok (.ifCond .ne 58, 3) := by decide +kernel
theorem dX10_linesFit_28 : decode cX10_linesFit 28 = .ok (.aload_n 0, 1) := by decide +kernel
theorem dX10_linesFit_29 : decode cX10_linesFit 29 = .ok (.getfield 46, 3) := by decide +kernel
theorem dX10_linesFit_32 : decode cX10_linesFit 32 = .ok (.aload_n 0, 1) := by decide +kernel
theorem dX10_linesFit_33 : decode cX10_linesFit 33 = .ok (.getfield 30, 3) := by decide +kernel
theorem dX10_linesFit_36 : decode cX10_linesFit 36 = .ok (.getfield 361, 3) := by decide +kernel
theorem dX10_linesFit_39 : decode cX10_linesFit 39 = .ok (.iload_n 1, 1) := by decide +kernel
theorem dX10_linesFit_40 : decode cX10_linesFit 40 = .ok (.iaload, 1) := by decide +kernel
theorem dX10_linesFit_41 : decode cX10_linesFit 41 = .ok (.aload_n 0, 1) := by decide +kernel
theorem dX10_linesFit_42 : decode cX10_linesFit 42 = .ok (.getfield 30, 3) := by decide +kernel
theorem dX10_linesFit_45 : decode cX10_linesFit 45 = .ok (.getfield 362, 3) := by decide +kernel
theorem dX10_linesFit_48 : decode cX10_linesFit 48 = .ok (.iload_n 2, 1) := by decide +kernel
theorem dX10_linesFit_49 : decode cX10_linesFit 49 = .ok (.iaload, 1) := by decide +kernel
theorem dX10_linesFit_50 : decode cX10_linesFit 50 = .ok (.i2l, 1) := by decide +kernel
theorem dX10_linesFit_51 : decode cX10_linesFit 51 = .ok (.aload_n 0, 1) := by decide +kernel
theorem dX10_linesFit_52 : decode cX10_linesFit 52 = .ok (.getfield 30, 3) := by decide +kernel
theorem dX10_linesFit_55 : decode cX10_linesFit 55 = .ok (.getfield 362, 3) := by decide +kernel
theorem dX10_linesFit_58 : decode cX10_linesFit 58 = .ok (.iload_n 2, 1) := by decide +kernel
theorem dX10_linesFit_59 : decode cX10_linesFit 59 = .ok (.iconst 1, 1) := by decide +kernel
theorem dX10_linesFit_60 : decode cX10_linesFit 60 = .ok (.iadd, 1) := by decide +kernel
theorem dX10_linesFit_61 : decode cX10_linesFit 61 = .ok (.iaload, 1) := by decide +kernel
theorem dX10_linesFit_62 : decode cX10_linesFit 62 = .ok (.i2l, 1) := by decide +kernel
theorem dX10_linesFit_63 : decode cX10_linesFit 63 = .ok (.aload_n 0, 1) := by decide +kernel
theorem dX10_linesFit_64 : decode cX10_linesFit 64 = .ok (.getfield 30, 3) := by decide +kernel
theorem dX10_linesFit_67 : decode cX10_linesFit 67 = .ok (.getfield 362, 3) := by decide +kernel
theorem dX10_linesFit_70 : decode cX10_linesFit 70 = .ok (.iload_n 2, 1) := by decide +kernel
theorem dX10_linesFit_71 : decode cX10_linesFit 71 = .ok (.iconst 2, 1) := by decide +kernel
theorem dX10_linesFit_72 : decode cX10_linesFit 72 = .ok (.iadd, 1) := by decide +kernel
theorem dX10_linesFit_73 : decode cX10_linesFit 73 = .ok (.iaload, 1) := by decide +kernel
theorem dX10_linesFit_74 : decode cX10_linesFit 74 = .ok (.i2l, 1) := by decide +kernel
theorem dX10_linesFit_75 : decode cX10_linesFit 75 = .ok (.invokevirtual 210, 3) := by decide +kernel
theorem dX10_linesFit_78 : decode cX10_linesFit 78 = .ok (.ifCond .ne 5, 3) := by decide +kernel
theorem dX10_linesFit_81 : decode cX10_linesFit 81 = .ok (.iconst 0, 1) := by decide +kernel
theorem dX10_linesFit_82 : decode cX10_linesFit 82 = .ok (.ireturn, 1) := by decide +kernel
theorem dX10_linesFit_83 : decode cX10_linesFit 83 = .ok (.iinc 1 1, 3) := by decide +kernel
theorem dX10_linesFit_86 : decode cX10_linesFit 86 = .ok (.goto (-84), 3) := by decide +kernel
theorem dX10_linesFit_89 : decode cX10_linesFit 89 = .ok (.iconst 1, 1) := by decide +kernel
theorem dX10_linesFit_90 : decode cX10_linesFit 90 = .ok (.ireturn, 1) := by decide +kernel
theorem dX10_takeLines_0 : decode cX10_takeLines 0 = .ok (.aload_n 0, 1) := by decide +kernel
theorem dX10_takeLines_1 : decode cX10_takeLines 1 = .ok (.getfield 60, 3) := by decide +kernel
theorem dX10_takeLines_4 : decode cX10_takeLines 4 = .ok (.getfield 128, 3) := by decide +kernel
theorem dX10_takeLines_7 : decode cX10_takeLines 7 = .ok (.istore_n 1, 1) := by decide +kernel
theorem dX10_takeLines_8 : decode cX10_takeLines 8 = .ok (.iconst 0, 1) := by decide +kernel
theorem dX10_takeLines_9 : decode cX10_takeLines 9 = .ok (.istore_n 2, 1) := by decide +kernel
theorem dX10_takeLines_10 : decode cX10_takeLines 10 = .ok (.iload_n 2, 1) := by decide +kernel
theorem dX10_takeLines_11 : decode cX10_takeLines 11 = .ok (.aload_n 0, 1) := by decide +kernel
theorem dX10_takeLines_12 : decode cX10_takeLines 12 = .ok (.getfield 30, 3) := by decide +kernel
theorem dX10_takeLines_15 : decode cX10_takeLines 15 = .ok (.getfield 221, 3) := by decide +kernel
theorem dX10_takeLines_18 : decode cX10_takeLines 18 = .ok (.if_icmp .ge 120, 3) := by decide +kernel
theorem dX10_takeLines_21 : decode cX10_takeLines 21 = .ok (.iload_n 2, 1) := by decide +kernel
theorem dX10_takeLines_22 : decode cX10_takeLines 22 = .ok (.iconst 3, 1) := by decide +kernel
theorem dX10_takeLines_23 : decode cX10_takeLines 23 = .ok (.imul, 1) := by decide +kernel
theorem dX10_takeLines_24 : decode cX10_takeLines 24 = .ok (.istore_n 3, 1) := by decide +kernel
theorem dX10_takeLines_25 : decode cX10_takeLines 25 = .ok (.aload_n 0, 1) := by decide +kernel
theorem dX10_takeLines_26 : decode cX10_takeLines 26 = .ok (.getfield 60, 3) := by decide +kernel
theorem dX10_takeLines_29 : decode cX10_takeLines 29 = .ok (.aload_n 0, 1) := by decide +kernel
theorem dX10_takeLines_30 : decode cX10_takeLines 30 = .ok (.getfield 30, 3) := by decide +kernel
theorem dX10_takeLines_33 : decode cX10_takeLines 33 = .ok (.getfield 361, 3) := by decide +kernel
theorem dX10_takeLines_36 : decode cX10_takeLines 36 = .ok (.iload_n 2, 1) := by decide +kernel
theorem dX10_takeLines_37 : decode cX10_takeLines 37 = .ok (.iaload, 1) := by decide +kernel
theorem dX10_takeLines_38 : decode cX10_takeLines 38 = .ok (.aload_n 0, 1) := by decide +kernel
theorem dX10_takeLines_39 : decode cX10_takeLines 39 = .ok (.getfield 30, 3) := by decide +kernel
theorem dX10_takeLines_42 : decode cX10_takeLines 42 = .ok (.getfield 362, 3) := by decide +kernel
theorem dX10_takeLines_45 : decode cX10_takeLines 45 = .ok (.iload_n 3, 1) := by decide +kernel
theorem dX10_takeLines_46 : decode cX10_takeLines 46 = .ok (.iaload, 1) := by decide +kernel
theorem dX10_takeLines_47 : decode cX10_takeLines 47 = .ok (.aload_n 0, 1) := by decide +kernel
theorem dX10_takeLines_48 : decode cX10_takeLines 48 = .ok (.getfield 30, 3) := by decide +kernel
theorem dX10_takeLines_51 : decode cX10_takeLines 51 = .ok (.getfield 362, 3) := by decide +kernel
theorem dX10_takeLines_54 : decode cX10_takeLines 54 = .ok (.iload_n 3, 1) := by decide +kernel
theorem dX10_takeLines_55 : decode cX10_takeLines 55 = .ok (.iconst 1, 1) := by decide +kernel
theorem dX10_takeLines_56 : decode cX10_takeLines 56 = .ok (.iadd, 1) := by decide +kernel
theorem dX10_takeLines_57 : decode cX10_takeLines 57 = .ok (.iaload, 1) := by decide +kernel
theorem dX10_takeLines_58 : decode cX10_takeLines 58 = .ok (.aload_n 0, 1) := by decide +kernel
theorem dX10_takeLines_59 : decode cX10_takeLines 59 = .ok (.getfield 30, 3) := by decide +kernel
theorem dX10_takeLines_62 : decode cX10_takeLines 62 = .ok (.getfield 362, 3) := by decide +kernel
theorem dX10_takeLines_65 : decode cX10_takeLines 65 = .ok (.iload_n 3, 1) := by decide +kernel
theorem dX10_takeLines_66 : decode cX10_takeLines 66 = .ok (.iconst 2, 1) := by decide +kernel
theorem dX10_takeLines_67 : decode cX10_takeLines 67 = .ok (.iadd, 1) := by decide +kernel
theorem dX10_takeLines_68 : decode cX10_takeLines 68 = .ok (.iaload, 1) := by decide +kernel
theorem dX10_takeLines_69 : decode cX10_takeLines 69 = .ok (.invokevirtual 213, 3) := by decide +kernel
theorem dX10_takeLines_72 : decode cX10_takeLines 72 = .ok (.istore 4, 2) := by decide +kernel
theorem dX10_takeLines_74 : decode cX10_takeLines 74 = .ok (.iconst 0, 1) := by decide +kernel
theorem dX10_takeLines_75 : decode cX10_takeLines 75 = .ok (.istore 5, 2) := by decide +kernel
theorem dX10_takeLines_77 : decode cX10_takeLines 77 = .ok (.iload 5, 2) := by decide +kernel
theorem dX10_takeLines_79 : decode cX10_takeLines 79 = .ok (.iconst 3, 1) := by decide +kernel
theorem dX10_takeLines_80 : decode cX10_takeLines 80 = .ok (.if_icmp .ge 52, 3) := by decide +kernel
theorem dX10_takeLines_83 : decode cX10_takeLines 83 = .ok (.aload_n 0, 1) := by decide +kernel
theorem dX10_takeLines_84 : decode cX10_takeLines 84 = .ok (.getfield 30, 3) := by decide +kernel
theorem dX10_takeLines_87 : decode cX10_takeLines 87 = .ok (.getfield 363, 3) := by decide +kernel
theorem dX10_takeLines_90 : decode cX10_takeLines 90 = .ok (.iload_n 3, 1) := by decide +kernel
theorem dX10_takeLines_91 : decode cX10_takeLines 91 = .ok (.iload 5, 2) := by decide +kernel
theorem dX10_takeLines_93 : decode cX10_takeLines 93 = .ok (.iadd, 1) := by decide +kernel
theorem dX10_takeLines_94 : decode cX10_takeLines 94 = .ok (.iaload, 1) := by decide +kernel
theorem dX10_takeLines_95 : decode cX10_takeLines 95 = .ok (.iconst (-1), 1) := by decide +kernel
theorem dX10_takeLines_96 : decode cX10_takeLines 96 = .ok (.if_icmp .eq 30, 3) := by decide +kernel
theorem dX10_takeLines_99 : decode cX10_takeLines 99 = .ok (.aload_n 0, 1) := by decide +kernel
theorem dX10_takeLines_100 : decode cX10_takeLines 100 = .ok (.getfield 60, 3) := by decide +kernel
theorem dX10_takeLines_103 : decode cX10_takeLines 103 = .ok (.iload 4, 2) := by decide +kernel
theorem dX10_takeLines_105 : decode cX10_takeLines 105 = .ok (.iload 5, 2) := by decide +kernel
theorem dX10_takeLines_107 : decode cX10_takeLines 107 = .ok (.iconst 2, 1) := by decide +kernel
theorem dX10_takeLines_108 : decode cX10_takeLines 108 = .ok (.iload_n 1, 1) := by decide +kernel
theorem dX10_takeLines_109 : decode cX10_takeLines 109 = .ok (.imul, 1) := by decide +kernel
theorem dX10_takeLines_110 : decode cX10_takeLines 110 = .ok (.aload_n 0, 1) := by decide +kernel
theorem dX10_takeLines_111 : decode cX10_takeLines 111 = .ok (.getfield 30, 3) := by decide +kernel
theorem dX10_takeLines_114 : decode cX10_takeLines 114 = .ok (.getfield 363, 3) := by decide +kernel
theorem dX10_takeLines_117 : decode cX10_takeLines 117 = .ok (.iload_n 3, 1) := by decide +kernel
theorem dX10_takeLines_118 : decode cX10_takeLines 118 = .ok (.iload 5, 2) := by decide +kernel
theorem dX10_takeLines_120 : decode cX10_takeLines 120 = .ok (.iadd, 1) := by decide +kernel
theorem dX10_takeLines_121 : decode cX10_takeLines 121 = .ok (.iaload, 1) := by decide +kernel
theorem dX10_takeLines_122 : decode cX10_takeLines 122 = .ok (.iadd, 1) := by decide +kernel
theorem dX10_takeLines_123 : decode cX10_takeLines 123 = .ok (.invokevirtual 242, 3) := by decide +kernel
theorem dX10_takeLines_126 : decode cX10_takeLines 126 = .ok (.iinc 5 1, 3) := by decide +kernel
theorem dX10_takeLines_129 : decode cX10_takeLines 129 = .ok (.goto (-52), 3) := by decide +kernel
theorem dX10_takeLines_132 : decode cX10_takeLines 132 = .ok (.iinc 2 1, 3) := by decide +kernel
theorem dX10_takeLines_135 : decode cX10_takeLines 135 = .ok (.goto (-125), 3) := by decide +kernel
theorem dX10_takeLines_138 : decode cX10_takeLines 138 = .ok (.return_, 1) := by decide +kernel
theorem dX10_solveBoth_0 : decode cX10_solveBoth 0 = .ok (.bipush 22, 2) := by decide +kernel
theorem dX10_solveBoth_2 : decode cX10_solveBoth 2 = .ok (.aload_n 0, 1) := by decide +kernel
theorem dX10_solveBoth_3 : decode cX10_solveBoth 3 = .ok (.getfield 37, 3) := by decide +kernel
theorem dX10_solveBoth_6 : decode cX10_solveBoth 6 = .ok (.getfield 117, 3) := by decide +kernel
theorem dX10_solveBoth_9 : decode cX10_solveBoth 9 = .ok (.isub, 1) := by decide +kernel
theorem dX10_solveBoth_10 : decode cX10_solveBoth 10 = .ok (.istore 8, 2) := by decide +kernel
theorem dX10_solveBoth_12 : decode cX10_solveBoth 12 = .ok (.aload_n 0, 1) := by decide +kernel
theorem dX10_solveBoth_13 : decode cX10_solveBoth 13 = .ok (.getfield 46, 3) := by decide +kernel
theorem dX10_solveBoth_16 : decode cX10_solveBoth 16 = .ok (.iload_n 1, 1) := by decide +kernel
theorem dX10_solveBoth_17 : decode cX10_solveBoth 17 = .ok (.lload_n 2, 1) := by decide +kernel
theorem dX10_solveBoth_18 : decode cX10_solveBoth 18 = .ok (.lload 4, 2) := by decide +kernel
theorem dX10_solveBoth_20 : decode cX10_solveBoth 20 = .ok (.lload 6, 2) := by decide +kernel
theorem dX10_solveBoth_22 : decode cX10_solveBoth 22 = .ok (.invokevirtual 192, 3) := by decide +kernel
theorem dX10_solveBoth_25 : decode cX10_solveBoth 25 = .ok (.ifCond .eq 32, 3) := by decide +kernel
theorem dX10_solveBoth_28 : decode cX10_solveBoth 28 = .ok (.aload_n 0, 1) := by decide +kernel
theorem dX10_solveBoth_29 : decode cX10_solveBoth 29 = .ok (.getfield 54, 3) := by decide +kernel
theorem dX10_solveBoth_32 : decode cX10_solveBoth 32 = .ok (.iload_n 1, 1) := by decide +kernel
theorem dX10_solveBoth_33 : decode cX10_solveBoth 33 = .ok (.lload_n 2, 1) := by decide +kernel
theorem dX10_solveBoth_34 : decode cX10_solveBoth 34 = .ok (.iload 8, 2) := by decide +kernel
theorem dX10_solveBoth_36 : decode cX10_solveBoth 36 = .ok (.lshl, 1) := by decide +kernel
theorem dX10_solveBoth_37 : decode cX10_solveBoth 37 = .ok (.lload 4, 2) := by decide +kernel
theorem dX10_solveBoth_39 : decode cX10_solveBoth 39 = .ok (.iload 8, 2) := by decide +kernel
theorem dX10_solveBoth_41 : decode cX10_solveBoth 41 = .ok (.lshl, 1) := by decide +kernel
theorem dX10_solveBoth_42 : decode cX10_solveBoth 42 = .ok (.lload 6, 2) := by decide +kernel
theorem dX10_solveBoth_44 : decode cX10_solveBoth 44 = .ok (.iload 8, 2) := by decide +kernel
theorem dX10_solveBoth_46 : decode cX10_solveBoth 46 = .ok (.lshl, 1) := by decide +kernel
theorem dX10_solveBoth_47 : decode cX10_solveBoth 47 = .ok (.invokevirtual 192, 3) := by decide +kernel
theorem dX10_solveBoth_50 : decode cX10_solveBoth 50 = .ok (.ifCond .eq 7, 3) := by decide +kernel
theorem dX10_solveBoth_53 : decode cX10_solveBoth 53 = .ok (.iconst 1, 1) := by decide +kernel
theorem dX10_solveBoth_54 : decode cX10_solveBoth 54 = .ok (.goto 4, 3) := by decide +kernel
theorem dX10_solveBoth_57 : decode cX10_solveBoth 57 = .ok (.iconst 0, 1) := by decide +kernel
theorem dX10_solveBoth_58 : decode cX10_solveBoth 58 = .ok (.ireturn, 1) := by decide +kernel
theorem dX10_distance_0 : decode cX10_distance 0 = .ok (.aload_n 0, 1) := by decide +kernel
theorem dX10_distance_1 : decode cX10_distance 1 = .ok (.getfield 46, 3) := by decide +kernel
theorem dX10_distance_4 : decode cX10_distance 4 = .ok (.iload_n 1, 1) := by decide +kernel
theorem dX10_distance_5 : decode cX10_distance 5 = .ok (.invokevirtual 196, 3) := by decide +kernel
theorem dX10_distance_8 : decode cX10_distance 8 = .ok (.bipush 22, 2) := by decide +kernel
theorem dX10_distance_10 : decode cX10_distance 10 = .ok (.aload_n 0, 1) := by decide +kernel
theorem dX10_distance_11 : decode cX10_distance 11 = .ok (.getfield 37, 3) := by decide +kernel
theorem dX10_distance_14 : decode cX10_distance 14 = .ok (.getfield 117, 3) := by decide +kernel
theorem dX10_distance_17 : decode cX10_distance 17 = .ok (.isub, 1) := by decide +kernel
theorem dX10_distance_18 : decode cX10_distance 18 = .ok (.lshl, 1) := by decide +kernel
theorem dX10_distance_19 : decode cX10_distance 19 = .ok (.aload_n 0, 1) := by decide +kernel
theorem dX10_distance_20 : decode cX10_distance 20 = .ok (.getfield 54, 3) := by decide +kernel
theorem dX10_distance_23 : decode cX10_distance 23 = .ok (.iload_n 1, 1) := by decide +kernel
theorem dX10_distance_24 : decode cX10_distance 24 = .ok (.invokevirtual 196, 3) := by decide +kernel
theorem dX10_distance_27 : decode cX10_distance 27 = .ok (.lsub, 1) := by decide +kernel
theorem dX10_distance_28 : decode cX10_distance 28 = .ok (.invokestatic 364, 3) := by decide +kernel
theorem dX10_distance_31 : decode cX10_distance 31 = .ok (.lreturn, 1) := by decide +kernel
theorem dX11_thrown_0 : decode cX11_thrown 0 = .ok (.aload_n 0, 1) := by decide +kernel
theorem dX11_thrown_1 : decode cX11_thrown 1 = .ok (.getfield 5, 3) := by decide +kernel
theorem dX11_thrown_4 : decode cX11_thrown 4 = .ok (.ireturn, 1) := by decide +kernel
theorem dX11_isIn_0 : decode cX11_isIn 0 = .ok (.lload_n 0, 1) := by decide +kernel
theorem dX11_isIn_1 : decode cX11_isIn 1 = .ok (.lload_n 2, 1) := by decide +kernel
theorem dX11_isIn_2 : decode cX11_isIn 2 = .ok (.lcmp, 1) := by decide +kernel
theorem dX11_isIn_3 : decode cX11_isIn 3 = .ok (.ifCond .lt 14, 3) := by decide +kernel
theorem dX11_isIn_6 : decode cX11_isIn 6 = .ok (.lload_n 0, 1) := by decide +kernel
theorem dX11_isIn_7 : decode cX11_isIn 7 = .ok (.lload 4, 2) := by decide +kernel
theorem dX11_isIn_9 : decode cX11_isIn 9 = .ok (.lcmp, 1) := by decide +kernel
theorem dX11_isIn_10 : decode cX11_isIn 10 = .ok (.ifCond .gt 7, 3) := by decide +kernel
theorem dX11_isIn_13 : decode cX11_isIn 13 = .ok (.iconst 1, 1) := by decide +kernel
theorem dX11_isIn_14 : decode cX11_isIn 14 = .ok (.goto 4, 3) := by decide +kernel
theorem dX11_isIn_17 : decode cX11_isIn 17 = .ok (.iconst 0, 1) := by decide +kernel
theorem dX11_isIn_18 : decode cX11_isIn 18 = .ok (.ireturn, 1) := by decide +kernel
theorem dX11_bytesOf_0 : decode cX11_bytesOf 0 = .ok (.iconst 0, 1) := by decide +kernel
theorem dX11_bytesOf_1 : decode cX11_bytesOf 1 = .ok (.istore_n 1, 1) := by decide +kernel
theorem dX11_bytesOf_2 : decode cX11_bytesOf 2 = .ok (.iconst 0, 1) := by decide +kernel
theorem dX11_bytesOf_3 : decode cX11_bytesOf 3 = .ok (.istore_n 2, 1) := by decide +kernel
theorem dX11_bytesOf_4 : decode cX11_bytesOf 4 = .ok (.iload_n 2, 1) := by decide +kernel
theorem dX11_bytesOf_5 : decode cX11_bytesOf 5 = .ok (.iconst 4, 1) := by decide +kernel
theorem dX11_bytesOf_6 : decode cX11_bytesOf 6 = .ok (.if_icmp .ge 30, 3) := by decide +kernel
theorem dX11_bytesOf_9 : decode cX11_bytesOf 9 = .ok (.iload_n 1, 1) := by decide +kernel
theorem dX11_bytesOf_10 : decode cX11_bytesOf 10 = .ok (.iload_n 0, 1) := by decide +kernel
theorem dX11_bytesOf_11 : decode cX11_bytesOf 11 = .ok (.bipush 8, 2) := by decide +kernel
theorem dX11_bytesOf_13 : decode cX11_bytesOf 13 = .ok (.iload_n 2, 1) := by decide +kernel
theorem dX11_bytesOf_14 : decode cX11_bytesOf 14 = .ok (.imul, 1) := by decide +kernel
theorem dX11_bytesOf_15 : decode cX11_bytesOf 15 = .ok (.ishr, 1) := by decide +kernel
theorem dX11_bytesOf_16 : decode cX11_bytesOf 16 = .ok (.sipush 255, 3) := by decide +kernel
theorem dX11_bytesOf_19 : decode cX11_bytesOf 19 = .ok (.iand, 1) := by decide +kernel
theorem dX11_bytesOf_20 : decode cX11_bytesOf 20 = .ok (.ifCond .ne 7, 3) := by decide +kernel
theorem dX11_bytesOf_23 : decode cX11_bytesOf 23 = .ok (.iconst 0, 1) := by decide +kernel
theorem dX11_bytesOf_24 : decode cX11_bytesOf 24 = .ok (.goto 4, 3) := by decide +kernel
theorem dX11_bytesOf_27 : decode cX11_bytesOf 27 = .ok (.iconst 1, 1) := by decide +kernel
theorem dX11_bytesOf_28 : decode cX11_bytesOf 28 = .ok (.iadd, 1) := by decide +kernel
theorem dX11_bytesOf_29 : decode cX11_bytesOf 29 = .ok (.istore_n 1, 1) := by decide +kernel
theorem dX11_bytesOf_30 : decode cX11_bytesOf 30 = .ok (.iinc 2 1, 3) := by decide +kernel
theorem dX11_bytesOf_33 : decode cX11_bytesOf 33 = .ok (.goto (-29), 3) := by decide +kernel
theorem dX11_bytesOf_36 : decode cX11_bytesOf 36 = .ok (.iload_n 1, 1) := by decide +kernel
theorem dX11_bytesOf_37 : decode cX11_bytesOf 37 = .ok (.ireturn, 1) := by decide +kernel
theorem dX11_brings_0 : decode cX11_brings 0 = .ok (.bipush 24, 2) := by decide +kernel
theorem dX11_brings_2 : decode cX11_brings 2 = .ok (.istore_n 2, 1) := by decide +kernel
theorem dX11_brings_3 : decode cX11_brings 3 = .ok (.iload_n 2, 1) := by decide +kernel
theorem dX11_brings_4 : decode cX11_brings 4 = .ok (.ifCond .lt 45, 3) := by decide +kernel
theorem dX11_brings_7 : decode cX11_brings 7 = .ok (.iload_n 1, 1) := by decide +kernel
theorem dX11_brings_8 : decode cX11_brings 8 = .ok (.iload_n 2, 1) := by decide +kernel
theorem dX11_brings_9 : decode cX11_brings 9 = .ok (.ishr, 1) := by decide +kernel
theorem dX11_brings_10 : decode cX11_brings 10 = .ok (.sipush 255, 3) := by decide +kernel
theorem dX11_brings_13 : decode cX11_brings 13 = .ok (.iand, 1) := by decide +kernel
theorem dX11_brings_14 : decode cX11_brings 14 = .ok (.istore_n 3, 1) := by decide +kernel
theorem dX11_brings_15 : decode cX11_brings 15 = .ok (.iload_n 3, 1) := by decide +kernel
theorem dX11_brings_16 : decode cX11_brings 16 = .ok (.ifCond .ne 6, 3) := by decide +kernel
theorem dX11_brings_19 : decode cX11_brings 19 = .ok (.goto 24, 3) := by decide +kernel
theorem dX11_brings_22 : decode cX11_brings 22 = .ok (.aload_n 0, 1) := by decide +kernel
theorem dX11_brings_23 : decode cX11_brings 23 = .ok (.getfield 9, 3) := by decide +kernel
theorem dX11_brings_26 : decode cX11_brings 26 = .ok (.aload_n 0, 1) := by decide +kernel
theorem dX11_brings_27 : decode cX11_brings 27 = .ok (.getfield 13, 3) := by decide +kernel
theorem dX11_brings_30 : decode cX11_brings 30 = .ok (.iload_n 3, 1) := by decide +kernel
theorem dX11_brings_31 : decode cX11_brings 31 = .ok (.i2b, 1) := by decide +kernel
theorem dX11_brings_32 : decode cX11_brings 32 = .ok (.bastore, 1) := by decide +kernel
theorem dX11_brings_33 : decode cX11_brings 33 = .ok (.aload_n 0, 1) := by decide +kernel
theorem dX11_brings_34 : decode cX11_brings 34 = .ok (.dup, 1) := by decide +kernel
theorem dX11_brings_35 : decode cX11_brings 35 = .ok (.getfield 13, 3) := by decide +kernel
theorem dX11_brings_38 : decode cX11_brings 38 = .ok (.iconst 1, 1) := by decide +kernel
theorem dX11_brings_39 : decode cX11_brings 39 = .ok (.iadd, 1) := by decide +kernel
theorem dX11_brings_40 : decode cX11_brings 40 = .ok (.putfield 13, 3) := by decide +kernel
theorem dX11_brings_43 : decode cX11_brings 43 = .ok (.iinc 2 (-8), 3) := by decide +kernel
theorem dX11_brings_46 : decode cX11_brings 46 = .ok (.goto (-43), 3) := by decide +kernel
theorem dX11_brings_49 : decode cX11_brings 49 = .ok (.return_, 1) := by decide +kernel
theorem dX11_feed_0 : decode cX11_feed 0 = .ok (.aload_n 0, 1) := by decide +kernel
theorem dX11_feed_1 : decode cX11_feed 1 = .ok (.iconst 0, 1) := by decide +kernel
theorem dX11_feed_2 : decode cX11_feed 2 = .ok (.putfield 5, 3) := by decide +kernel
theorem dX11_feed_5 : decode cX11_feed 5 = .ok (.aload_n 0, 1) := by decide +kernel
theorem dX11_feed_6 : decode cX11_feed 6 = .ok (.getfield 13, 3) := by decide +kernel
theorem dX11_feed_9 : decode cX11_feed 9 = .ok (.iload_n 1, 1) := by decide +kernel
theorem dX11_feed_10 : decode cX11_feed 10 = .ok (.invokestatic 16, 3) := by decide +kernel
theorem dX11_feed_13 : decode cX11_feed 13 = .ok (.iadd, 1) := by decide +kernel
theorem dX11_feed_14 : decode cX11_feed 14 = .ok (.iload_n 2, 1) := by decide +kernel
theorem dX11_feed_15 : decode cX11_feed 15 = .ok (.invokestatic 16, 3) := by decide +kernel
theorem dX11_feed_18 : decode cX11_feed 18 = .ok (.iadd, 1) := by decide +kernel
theorem dX11_feed_19 : decode cX11_feed 19 = .ok (.iload_n 3, 1) := by decide +kernel
theorem dX11_feed_20 : decode cX11_feed 20 = .ok (.invokestatic 16, 3) := by decide +kernel
theorem dX11_feed_23 : decode cX11_feed 23 = .ok (.iadd, 1) := by decide +kernel
theorem dX11_feed_24 : decode cX11_feed 24 = .ok (.iload 4, 2) := by decide +kernel
theorem dX11_feed_26 : decode cX11_feed 26 = .ok (.invokestatic 16, 3) := by decide +kernel
theorem dX11_feed_29 : decode cX11_feed 29 = .ok (.iadd, 1) := by decide +kernel
theorem dX11_feed_30 : decode cX11_feed 30 = .ok (.iload 5, 2) := by decide +kernel
theorem dX11_feed_32 : decode cX11_feed 32 = .ok (.invokestatic 16, 3) := by decide +kernel
theorem dX11_feed_35 : decode cX11_feed 35 = .ok (.iadd, 1) := by decide +kernel
theorem dX11_feed_36 : decode cX11_feed 36 = .ok (.sipush 400, 3) := by decide +kernel
theorem dX11_feed_39 : decode cX11_feed 39 = .ok (.if_icmp .le 5, 3) := by decide +kernel
theorem dX11_feed_42 : decode cX11_feed 42 = .ok (.iconst (-1), 1) := by decide +kernel
theorem dX11_feed_43 : decode cX11_feed 43 = .ok (.ireturn, 1) := by decide +kernel
theorem dX11_feed_44 : decode cX11_feed 44 = .ok (.aload_n 0, 1) := by decide +kernel
theorem dX11_feed_45 : decode cX11_feed 45 = .ok (.iload_n 1, 1) := by decide +kernel
theorem dX11_feed_46 : decode cX11_feed 46 = .ok (.invokevirtual 20, 3) := by decide +kernel
theorem dX11_feed_49 : decode cX11_feed 49 = .ok (.aload_n 0, 1) := by decide +kernel
theorem dX11_feed_50 : decode cX11_feed 50 = .ok (.iload_n 2, 1) := by decide +kernel
theorem dX11_feed_51 : decode cX11_feed 51 = .ok (.invokevirtual 20, 3) := by decide +kernel
theorem dX11_feed_54 : decode cX11_feed 54 = .ok (.aload_n 0, 1) := by decide +kernel
theorem dX11_feed_55 : decode cX11_feed 55 = .ok (.iload_n 3, 1) := by decide +kernel
theorem dX11_feed_56 : decode cX11_feed 56 = .ok (.invokevirtual 20, 3) := by decide +kernel
theorem dX11_feed_59 : decode cX11_feed 59 = .ok (.aload_n 0, 1) := by decide +kernel
theorem dX11_feed_60 : decode cX11_feed 60 = .ok (.iload 4, 2) := by decide +kernel
theorem dX11_feed_62 : decode cX11_feed 62 = .ok (.invokevirtual 20, 3) := by decide +kernel
theorem dX11_feed_65 : decode cX11_feed 65 = .ok (.aload_n 0, 1) := by decide +kernel
theorem dX11_feed_66 : decode cX11_feed 66 = .ok (.iload 5, 2) := by decide +kernel
theorem dX11_feed_68 : decode cX11_feed 68 = .ok (.invokevirtual 20, 3) := by decide +kernel
theorem dX11_feed_71 : decode cX11_feed 71 = .ok (.aload_n 0, 1) := by decide +kernel
theorem dX11_feed_72 : decode cX11_feed 72 = .ok (.getfield 13, 3) := by decide +kernel
theorem dX11_feed_75 : decode cX11_feed 75 = .ok (.ireturn, 1) := by decide +kernel
theorem dX11_end_0 : decode cX11_end 0 = .ok (.aload_n 0, 1) := by decide +kernel
theorem dX11_end_1 : decode cX11_end 1 = .ok (.iconst 0, 1) := by decide +kernel
theorem dX11_end_2 : decode cX11_end 2 = .ok (.putfield 5, 3) := by decide +kernel
theorem dX11_end_5 : decode cX11_end 5 = .ok (.iload_n 1, 1) := by decide +kernel
theorem dX11_end_6 : decode cX11_end 6 = .ok (.ifCond .lt 11, 3) := by decide +kernel
theorem dX11_end_9 : decode cX11_end 9 = .ok (.iload_n 1, 1) := by decide +kernel
theorem dX11_end_10 : decode cX11_end 10 = .ok (.aload_n 0, 1) := by decide +kernel
theorem dX11_end_11 : decode cX11_end 11 = .ok (.getfield 13, 3) := by decide +kernel
theorem dX11_end_14 : decode cX11_end 14 = .ok (.if_icmp .le 5, 3) := by decide +kernel
theorem dX11_end_17 : decode cX11_end 17 = .ok (.iconst 0, 1) := by decide +kernel
theorem dX11_end_18 : decode cX11_end 18 = .ok (.ireturn, 1) := by decide +kernel
theorem dX11_end_19 : decode cX11_end 19 = .ok (.aload_n 0, 1) := by decide +kernel
theorem dX11_end_20 : decode cX11_end 20 = .ok (.iload_n 1, 1) := by decide +kernel
theorem dX11_end_21 : decode cX11_end 21 = .ok (.putfield 13, 3) := by decide +kernel
theorem dX11_end_24 : decode cX11_end 24 = .ok (.iconst 1, 1) := by decide +kernel
theorem dX11_end_25 : decode cX11_end 25 = .ok (.ireturn, 1) := by decide +kernel
theorem dX11_here_0 : decode cX11_here 0 = .ok (.aload_n 0, 1) := by decide +kernel
theorem dX11_here_1 : decode cX11_here 1 = .ok (.getfield 24, 3) := by decide +kernel
theorem dX11_here_4 : decode cX11_here 4 = .ok (.aload_n 0, 1) := by decide +kernel
theorem dX11_here_5 : decode cX11_here 5 = .ok (.getfield 13, 3) := by decide +kernel
theorem dX11_here_8 : decode cX11_here 8 = .ok (.if_icmp .ge 19, 3) := by decide +kernel
theorem dX11_here_11 : decode cX11_here 11 = .ok (.aload_n 0, 1) := by decide +kernel
theorem dX11_here_12 : decode cX11_here 12 = .ok (.getfield 9, 3) := by decide +kernel
theorem dX11_here_15 : decode cX11_here 15 = .ok (.aload_n 0, 1) := by decide +kernel
theorem dX11_here_16 : decode cX11_here 16 = .ok (.getfield 24, 3) := by decide +kernel
theorem dX11_here_19 : decode cX11_here 19 = .ok (.baload, 1) := by decide +kernel
theorem dX11_here_20 : decode cX11_here 20 = .ok (.sipush 255, 3) := by decide +kernel
theorem dX11_here_23 : decode cX11_here 23 = .ok (.iand, 1) := by decide +kernel
theorem dX11_here_24 : decode cX11_here 24 = .ok (.goto 4, 3) := by decide +kernel
theorem dX11_here_27 : decode cX11_here 27 = .ok (.iconst (-1), 1) := by decide +kernel
theorem dX11_here_28 : decode cX11_here 28 = .ok (.ireturn, 1) := by decide +kernel
theorem dX11_look_0 : decode cX11_look 0 = .ok (.aload_n 0, 1) := by decide +kernel
theorem dX11_look_1 : decode cX11_look 1 = .ok (.invokevirtual 27, 3) := by decide +kernel
theorem dX11_look_4 : decode cX11_look 4 = .ok (.bipush 32, 2) := by decide +kernel
theorem dX11_look_6 : decode cX11_look 6 = .ok (.if_icmp .ne 16, 3) := by decide +kernel
theorem dX11_look_9 : decode cX11_look 9 = .ok (.aload_n 0, 1) := by decide +kernel
theorem dX11_look_10 : decode cX11_look 10 = .ok (.dup, 1) := by decide +kernel
theorem dX11_look_11 : decode cX11_look 11 = .ok (.getfield 24, 3) := by decide +kernel
theorem dX11_look_14 : decode cX11_look 14 = .ok (.iconst 1, 1) := by decide +kernel
theorem dX11_look_15 : decode cX11_look 15 = .ok (.iadd, 1) := by decide +kernel
theorem dX11_look_16 : decode cX11_look 16 = .ok (.putfield 24, 3) := by decide +kernel
theorem dX11_look_19 : decode cX11_look 19 = .ok (.goto (-19), 3) := by decide +kernel
theorem dX11_look_22 : decode cX11_look 22 = .ok (.aload_n 0, 1) := by decide +kernel
theorem dX11_look_23 : decode cX11_look 23 = .ok (.invokevirtual 27, 3) := by decide +kernel
theorem dX11_look_26 : decode cX11_look 26 = .ok (.ireturn, 1) := by decide +kernel
theorem dX11_fails_0 : decode cX11_fails 0 = .ok (.aload_n 0, 1) := by decide +kernel
theorem dX11_fails_1 : decode cX11_fails 1 = .ok (.getfield 31, 3) := by decide +kernel
theorem dX11_fails_4 : decode cX11_fails 4 = .ok (.iconst (-1), 1) := by decide +kernel
theorem dX11_fails_5 : decode cX11_fails 5 = .ok (.if_icmp .ne 8, 3) := by decide +kernel
theorem dX11_fails_8 : decode cX11_fails 8 = .ok (.aload_n 0, 1) := by decide +kernel
theorem dX11_fails_9 : decode cX11_fails 9 = .ok (.iload_n 1, 1) := by decide +kernel
theorem dX11_fails_10 : decode cX11_fails 10 = .ok (.putfield 31, 3) := by decide +kernel
theorem dX11_fails_13 : decode cX11_fails 13 = .ok (.return_, 1) := by decide +kernel
theorem dX11_isDigit_0 : decode cX11_isDigit 0 = .ok (.iload_n 0, 1) := by decide +kernel
theorem dX11_isDigit_1 : decode cX11_isDigit 1 = .ok (.bipush 48, 2) := by decide +kernel
theorem dX11_isDigit_3 : decode cX11_isDigit 3 = .ok (.if_icmp .lt 13, 3) := by decide +kernel
theorem dX11_isDigit_6 : decode cX11_isDigit 6 = .ok (.iload_n 0, 1) := by decide +kernel
theorem dX11_isDigit_7 : decode cX11_isDigit 7 = .ok (.bipush 57, 2) := by decide +kernel
theorem dX11_isDigit_9 : decode cX11_isDigit 9 = .ok (.if_icmp .gt 7, 3) := by decide +kernel
theorem dX11_isDigit_12 : decode cX11_isDigit 12 = .ok (.iconst 1, 1) := by decide +kernel
theorem dX11_isDigit_13 : decode cX11_isDigit 13 = .ok (.goto 4, 3) := by decide +kernel
theorem dX11_isDigit_16 : decode cX11_isDigit 16 = .ok (.iconst 0, 1) := by decide +kernel
theorem dX11_isDigit_17 : decode cX11_isDigit 17 = .ok (.ireturn, 1) := by decide +kernel
theorem dX11_wordEnd_0 : decode cX11_wordEnd 0 = .ok (.aload_n 0, 1) := by decide +kernel
theorem dX11_wordEnd_1 : decode cX11_wordEnd 1 = .ok (.getfield 24, 3) := by decide +kernel
theorem dX11_wordEnd_4 : decode cX11_wordEnd 4 = .ok (.istore_n 1, 1) := by decide +kernel
theorem dX11_wordEnd_5 : decode cX11_wordEnd 5 = .ok (.iload_n 1, 1) := by decide +kernel
theorem dX11_wordEnd_6 : decode cX11_wordEnd 6 = .ok (.aload_n 0, 1) := by decide +kernel
theorem dX11_wordEnd_7 : decode cX11_wordEnd 7 = .ok (.getfield 13, 3) := by decide +kernel
theorem dX11_wordEnd_10 : decode cX11_wordEnd 10 = .ok (.if_icmp .ge 31, 3) := by decide +kernel
theorem dX11_wordEnd_13 : decode cX11_wordEnd 13 = .ok (.aload_n 0, 1) := by decide +kernel
theorem dX11_wordEnd_14 : decode cX11_wordEnd 14 = .ok (.getfield 9, 3) := by decide +kernel
theorem dX11_wordEnd_17 : decode cX11_wordEnd 17 = .ok (.iload_n 1, 1) := by decide +kernel
theorem dX11_wordEnd_18 : decode cX11_wordEnd 18 = .ok (.baload, 1) := by decide +kernel
theorem dX11_wordEnd_19 : decode cX11_wordEnd 19 = .ok (.bipush 97, 2) := by decide +kernel
theorem dX11_wordEnd_21 : decode cX11_wordEnd 21 = .ok (.if_icmp .lt 20, 3) := by decide +kernel
theorem dX11_wordEnd_24 : decode cX11_wordEnd 24 = .ok (.aload_n 0, 1) := by decide +kernel
theorem dX11_wordEnd_25 : decode cX11_wordEnd 25 = .ok (.getfield 9, 3) := by decide +kernel
theorem dX11_wordEnd_28 : decode cX11_wordEnd 28 = .ok (.iload_n 1, 1) := by decide +kernel
theorem dX11_wordEnd_29 : decode cX11_wordEnd 29 = .ok (.baload, 1) := by decide +kernel
theorem dX11_wordEnd_30 : decode cX11_wordEnd 30 = .ok (.bipush 122, 2) := by decide +kernel
theorem dX11_wordEnd_32 : decode cX11_wordEnd 32 = .ok (.if_icmp .gt 9, 3) := by decide +kernel
theorem dX11_wordEnd_35 : decode cX11_wordEnd 35 = .ok (.iinc 1 1, 3) := by decide +kernel
theorem dX11_wordEnd_38 : decode cX11_wordEnd 38 = .ok (.goto (-33), 3) := by decide +kernel
theorem dX11_wordEnd_41 : decode cX11_wordEnd 41 = .ok (.iload_n 1, 1) := by decide +kernel
theorem dX11_wordEnd_42 : decode cX11_wordEnd 42 = .ok (.ireturn, 1) := by decide +kernel
theorem dX11_isWord_0 : decode cX11_isWord 0 = .ok (.iload_n 2, 1) := by decide +kernel
theorem dX11_isWord_1 : decode cX11_isWord 1 = .ok (.aload_n 0, 1) := by decide +kernel
theorem dX11_isWord_2 : decode cX11_isWord 2 = .ok (.getfield 24, 3) := by decide +kernel
theorem dX11_isWord_5 : decode cX11_isWord 5 = .ok (.isub, 1) := by decide +kernel
theorem dX11_isWord_6 : decode cX11_isWord 6 = .ok (.aload_n 1, 1) := by decide +kernel
theorem dX11_isWord_7 : decode cX11_isWord 7 = .ok (.invokevirtual 34, 3) := by decide +kernel
theorem dX11_isWord_10 : decode cX11_isWord 10 = .ok (.if_icmp .eq 5, 3) := by decide +kernel
theorem dX11_isWord_13 : decode cX11_isWord 13 = .ok (.iconst 0, 1) := by decide +kernel
theorem dX11_isWord_14 : decode cX11_isWord 14 = .ok (.ireturn, 1) := by decide +kernel
theorem dX11_isWord_15 : decode cX11_isWord 15 = .ok (.iconst 0, 1) := by decide +kernel
theorem dX11_isWord_16 : decode cX11_isWord 16 = .ok (.istore_n 3, 1) := by decide +kernel
theorem dX11_isWord_17 : decode cX11_isWord 17 = .ok (.iload_n 3, 1) := by decide +kernel
theorem dX11_isWord_18 : decode cX11_isWord 18 = .ok (.aload_n 1, 1) := by decide +kernel
theorem dX11_isWord_19 : decode cX11_isWord 19 = .ok (.invokevirtual 34, 3) := by decide +kernel
theorem dX11_isWord_22 : decode cX11_isWord 22 = .ok (.if_icmp .ge 30, 3) := by decide +kernel
theorem dX11_isWord_25 : decode cX11_isWord 25 = .ok (.aload_n 0, 1) := by decide +kernel
theorem dX11_isWord_26 : decode cX11_isWord 26 = .ok (.getfield 9, 3) := by decide +kernel
theorem dX11_isWord_29 : decode cX11_isWord 29 = .ok (.aload_n 0, 1) := by decide +kernel
theorem dX11_isWord_30 : decode cX11_isWord 30 = .ok (.getfield 24, 3) := by decide +kernel
theorem dX11_isWord_33 : decode cX11_isWord 33 = .ok (.iload_n 3, 1) := by decide +kernel
theorem dX11_isWord_34 : decode cX11_isWord 34 = .ok (.iadd, 1) := by decide +kernel
theorem dX11_isWord_35 : decode cX11_isWord 35 = .ok (.baload, 1) := by decide +kernel
theorem dX11_isWord_36 : decode cX11_isWord 36 = .ok (.aload_n 1, 1) := by decide +kernel
theorem dX11_isWord_37 : decode cX11_isWord 37 = .ok (.iload_n 3, 1) := by decide +kernel
theorem dX11_isWord_38 : decode cX11_isWord 38 = .ok (.invokevirtual 38, 3) := by decide +kernel
theorem dX11_isWord_41 : decode cX11_isWord 41 = .ok (.if_icmp .eq 5, 3) := by decide +kernel
theorem dX11_isWord_44 : decode cX11_isWord 44 = .ok (.iconst 0, 1) := by decide +kernel
theorem dX11_isWord_45 : decode cX11_isWord 45 = .ok (.ireturn, 1) := by decide +kernel
theorem dX11_isWord_46 : decode cX11_isWord 46 = .ok (.iinc 3 1, 3) := by decide +kernel
theorem dX11_isWord_49 : decode cX11_isWord 49 = .ok (.goto (-32), 3) := by decide +kernel
theorem dX11_isWord_52 : decode cX11_isWord 52 = .ok (.iconst 1, 1) := by decide +kernel
theorem dX11_isWord_53 : decode cX11_isWord 53 = .ok (.ireturn, 1) := by decide +kernel
theorem dX11_wordHere_0 : decode cX11_wordHere 0 = .ok (.aload_n 0, 1) := by decide +kernel
theorem dX11_wordHere_1 : decode cX11_wordHere 1 = .ok (.ldc 42, 2) := by decide +kernel
theorem dX11_wordHere_3 : decode cX11_wordHere 3 = .ok (.iload_n 1, 1) := by decide +kernel
theorem dX11_wordHere_4 : decode cX11_wordHere 4 = .ok (.invokevirtual 44, 3) := by decide +kernel
theorem dX11_wordHere_7 : decode cX11_wordHere 7 = .ok (.ifCond .eq 5, 3) := by decide +kernel
theorem dX11_wordHere_10 : decode cX11_wordHere 10 = .ok (.iconst 0, 1) := by decide +kernel
theorem dX11_wordHere_11 : decode cX11_wordHere 11 = .ok (.ireturn, 1) := by decide +kernel
theorem dX11_wordHere_12 : decode cX11_wordHere 12 = .ok (.aload_n 0, 1) := by decide +kernel
theorem dX11_wordHere_13 : decode cX11_wordHere 13 = .ok (.ldc 48, 2) := by decide +kernel
theorem dX11_wordHere_15 : decode cX11_wordHere 15 = .ok (.iload_n 1, 1) := by decide +kernel
theorem dX11_wordHere_16 : decode cX11_wordHere 16 = .ok (.invokevirtual 44, 3) := by decide +kernel
theorem dX11_wordHere_19 : decode cX11_wordHere 19 = .ok (.ifCond .eq 5, 3) := by decide +kernel
theorem dX11_wordHere_22 : decode cX11_wordHere 22 = .ok (.iconst 1, 1) := by decide +kernel
theorem dX11_wordHere_23 : decode cX11_wordHere 23 = .ok (.ireturn, 1) := by decide +kernel
theorem dX11_wordHere_24 : decode cX11_wordHere 24 = .ok (.aload_n 0, 1) := by decide +kernel
theorem dX11_wordHere_25 : decode cX11_wordHere 25 = .ok (.ldc 50, 2) := by decide +kernel
theorem dX11_wordHere_27 : decode cX11_wordHere 27 = .ok (.iload_n 1, 1) := by decide +kernel
theorem dX11_wordHere_28 : decode cX11_wordHere 28 = .ok (.invokevirtual 44, 3) := by decide +kernel
theorem dX11_wordHere_31 : decode cX11_wordHere 31 = .ok (.ifCond .eq 5, 3) := by decide +kernel
theorem dX11_wordHere_34 : decode cX11_wordHere 34 = .ok (.iconst 2, 1) := by decide +kernel
theorem dX11_wordHere_35 : decode cX11_wordHere 35 = .ok (.ireturn, 1) := by decide +kernel
theorem dX11_wordHere_36 : decode cX11_wordHere 36 = .ok (.aload_n 0, 1) := by decide +kernel
theorem dX11_wordHere_37 : decode cX11_wordHere 37 = .ok (.ldc 52, 2) := by decide +kernel
theorem dX11_wordHere_39 : decode cX11_wordHere 39 = .ok (.iload_n 1, 1) := by decide +kernel
theorem dX11_wordHere_40 : decode cX11_wordHere 40 = .ok (.invokevirtual 44, 3) := by decide +kernel
theorem dX11_wordHere_43 : decode cX11_wordHere 43 = .ok (.ifCond .eq 5, 3) := by decide +kernel
theorem dX11_wordHere_46 : decode cX11_wordHere 46 = .ok (.iconst 3, 1) := by decide +kernel
theorem dX11_wordHere_47 : decode cX11_wordHere 47 = .ok (.ireturn, 1) := by decide +kernel
theorem dX11_wordHere_48 : decode cX11_wordHere 48 = .ok (.aload_n 0, 1) := by decide +kernel
theorem dX11_wordHere_49 : decode cX11_wordHere 49 = .ok (.ldc 54, 2) := by decide +kernel
theorem dX11_wordHere_51 : decode cX11_wordHere 51 = .ok (.iload_n 1, 1) := by decide +kernel
theorem dX11_wordHere_52 : decode cX11_wordHere 52 = .ok (.invokevirtual 44, 3) := by decide +kernel
theorem dX11_wordHere_55 : decode cX11_wordHere 55 = .ok (.ifCond .eq 5, 3) := by decide +kernel
theorem dX11_wordHere_58 : decode cX11_wordHere 58 = .ok (.iconst 4, 1) := by decide +kernel
theorem dX11_wordHere_59 : decode cX11_wordHere 59 = .ok (.ireturn, 1) := by decide +kernel
theorem dX11_wordHere_60 : decode cX11_wordHere 60 = .ok (.aload_n 0, 1) := by decide +kernel
theorem dX11_wordHere_61 : decode cX11_wordHere 61 = .ok (.ldc 56, 2) := by decide +kernel
theorem dX11_wordHere_63 : decode cX11_wordHere 63 = .ok (.iload_n 1, 1) := by decide +kernel
theorem dX11_wordHere_64 : decode cX11_wordHere 64 = .ok (.invokevirtual 44, 3) := by decide +kernel
theorem dX11_wordHere_67 : decode cX11_wordHere 67 = .ok (.ifCond .eq 7, 3) := by decide +kernel
theorem dX11_wordHere_70 : decode cX11_wordHere 70 = .ok (.iconst 5, 1) := by decide +kernel
theorem dX11_wordHere_71 : decode cX11_wordHere 71 = .ok (.goto 4, 3) := by decide +kernel
theorem dX11_wordHere_74 : decode cX11_wordHere 74 = .ok (.iconst (-1), 1) := by decide +kernel
theorem dX11_wordHere_75 : decode cX11_wordHere 75 = .ok (.ireturn, 1) := by decide +kernel
theorem dX11_number_0 : decode cX11_number 0 = .ok (.aload_n 0, 1) := by decide +kernel
theorem dX11_number_1 : decode cX11_number 1 = .ok (.invokevirtual 58, 3) := by decide +kernel
theorem dX11_number_4 : decode cX11_number 4 = .ok (.istore_n 3, 1) := by decide +kernel
theorem dX11_number_5 : decode cX11_number 5 = .ok (.aload_n 0, 1) := by decide +kernel
theorem dX11_number_6 : decode cX11_number 6 = .ok (.getfield 24, 3) := by decide +kernel
theorem dX11_number_9 : decode cX11_number 9 = .ok (.istore 4, 2) := by decide +kernel
theorem dX11_number_11 : decode cX11_number 11 = .ok (.iconst 0, 1) := by decide +kernel
theorem dX11_number_12 : decode cX11_number 12 = .ok (.istore 5, 2) := by decide +kernel
theorem dX11_number_14 : decode cX11_number 14 = .ok (.aload_n 0, 1) := by decide +kernel
theorem dX11_number_15 : decode cX11_number 15 = .ok (.invokevirtual 27, 3) := by decide +kernel
theorem dX11_number_18 : decode cX11_number 18 = .ok (.invokestatic 61, 3) := by decide +kernel
theorem dX11_number_21 : decode cX11_number 21 = .ok (.ifCond .eq 42, 3) := by decide +kernel
theorem dX11_number_24 : decode cX11_number 24 = .ok (.aload_n 0, 1) := by decide +kernel
theorem dX11_number_25 : decode cX11_number 25 = .ok (.getfield 24, 3) := by decide +kernel
theorem dX11_number_28 : decode cX11_number 28 = .ok (.iload 4, 2) := by decide +kernel
theorem dX11_number_30 : decode cX11_number 30 = .ok (.isub, 1) := by decide +kernel
theorem dX11_number_31 : decode cX11_number 31 = .ok (.iconst 3, 1) := by decide +kernel
theorem dX11_number_32 : decode cX11_number 32 = .ok (.if_icmp .ge 18, 3) := by decide +kernel
theorem dX11_number_35 : decode cX11_number 35 = .ok (.bipush 10, 2) := by decide +kernel
theorem dX11_number_37 : decode cX11_number 37 = .ok (.iload 5, 2) := by decide +kernel
theorem dX11_number_39 : decode cX11_number 39 = .ok (.imul, 1) := by decide +kernel
theorem dX11_number_40 : decode cX11_number 40 = .ok (.aload_n 0, 1) := by decide +kernel
theorem dX11_number_41 : decode cX11_number 41 = .ok (.invokevirtual 27, 3) := by decide +kernel
theorem dX11_number_44 : decode cX11_number 44 = .ok (.iadd, 1) := by decide +kernel
theorem dX11_number_45 : decode cX11_number 45 = .ok (.bipush 48, 2) := by decide +kernel
theorem dX11_number_47 : decode cX11_number 47 = .ok (.isub, 1) := by decide +kernel
theorem dX11_number_48 : decode cX11_number 48 = .ok (.istore 5, 2) := by decide +kernel
theorem dX11_number_50 : decode cX11_number 50 = .ok (.aload_n 0, 1) := by decide +kernel
theorem dX11_number_51 : decode cX11_number 51 = .ok (.dup, 1) := by decide +kernel
theorem dX11_number_52 : decode cX11_number 52 = .ok (.getfield 24, 3) := by decide +kernel
theorem dX11_number_55 : decode cX11_number 55 = .ok (.iconst 1, 1) := by decide +kernel
theorem dX11_number_56 : decode cX11_number 56 = .ok (.iadd, 1) := by decide +kernel
theorem dX11_number_57 : decode cX11_number 57 = .ok (.putfield 24, 3) := by decide +kernel
theorem dX11_number_60 : decode cX11_number 60 = .ok (.goto (-46), 3) := by decide +kernel
theorem dX11_number_63 : decode cX11_number 63 = .ok (.aload_n 0, 1) := by decide +kernel
theorem dX11_number_64 : decode cX11_number 64 = .ok (.getfield 24, 3) := by decide +kernel
theorem dX11_number_67 : decode cX11_number 67 = .ok (.iload 4, 2) := by decide +kernel
theorem dX11_number_69 : decode cX11_number 69 = .ok (.if_icmp .eq 27, 3) := by decide +kernel
theorem dX11_number_72 : decode cX11_number 72 = .ok (.aload_n 0, 1) := by decide +kernel
theorem dX11_number_73 : decode cX11_number 73 = .ok (.getfield 24, 3) := by decide +kernel
theorem dX11_number_76 : decode cX11_number 76 = .ok (.iload 4, 2) := by decide +kernel
theorem dX11_number_78 : decode cX11_number 78 = .ok (.isub, 1) := by decide +kernel
theorem dX11_number_79 : decode cX11_number 79 = .ok (.iconst 2, 1) := by decide +kernel
theorem dX11_number_80 : decode cX11_number 80 = .ok (.if_icmp .gt 16, 3) := by decide +kernel
theorem dX11_number_83 : decode cX11_number 83 = .ok (.iload 5, 2) := by decide +kernel
theorem dX11_number_85 : decode cX11_number 85 = .ok (.i2l, 1) := by decide +kernel
theorem dX11_number_86 : decode cX11_number 86 = .ok (.iload_n 1, 1) := by decide +kernel
theorem dX11_number_87 : decode cX11_number 87 = .ok (.i2l, 1) := by decide +kernel
theorem dX11_number_88 : decode cX11_number 88 = .ok (.iload_n 2, 1) := by decide +kernel
theorem dX11_number_89 : decode cX11_number 89 = .ok (.i2l, 1) := by decide +kernel
theorem dX11_number_90 : decode cX11_number 90 = .ok (.invokestatic 65, 3) := by decide +kernel
theorem dX11_number_93 : decode cX11_number 93 = .ok (.ifCond .ne 9, 3) := by decide +kernel
theorem dX11_number_96 : decode cX11_number 96 = .ok (.aload_n 0, 1) := by decide +kernel
theorem dX11_number_97 : decode cX11_number 97 = .ok (.iload 4, 2) := by decide +kernel
theorem dX11_number_99 : decode cX11_number 99 = .ok (.invokevirtual 69, 3) := by decide +kernel
theorem dX11_number_102 : decode cX11_number 102 = .ok (.iload 5, 2) := by decide +kernel
theorem dX11_number_104 : decode cX11_number 104 = .ok (.ireturn, 1) := by decide +kernel
theorem dX11_piece_0 : decode cX11_piece 0 = .ok (.aload_n 0, 1) := by decide +kernel
theorem dX11_piece_1 : decode cX11_piece 1 = .ok (.invokevirtual 58, 3) := by decide +kernel
theorem dX11_piece_4 : decode cX11_piece 4 = .ok (.istore_n 1, 1) := by decide +kernel
theorem dX11_piece_5 : decode cX11_piece 5 = .ok (.aload_n 0, 1) := by decide +kernel
theorem dX11_piece_6 : decode cX11_piece 6 = .ok (.invokevirtual 72, 3) := by decide +kernel
theorem dX11_piece_9 : decode cX11_piece 9 = .ok (.istore_n 2, 1) := by decide +kernel
theorem dX11_piece_10 : decode cX11_piece 10 = .ok (.aload_n 0, 1) := by decide +kernel
theorem dX11_piece_11 : decode cX11_piece 11 = .ok (.iload_n 2, 1) := by decide +kernel
theorem dX11_piece_12 : decode cX11_piece 12 = .ok (.invokevirtual 75, 3) := by decide +kernel
theorem dX11_piece_15 : decode cX11_piece 15 = .ok (.istore_n 3, 1) := by decide +kernel
theorem dX11_piece_16 : decode cX11_piece 16 = .ok (.iload_n 3, 1) := by decide +kernel
theorem dX11_piece_17 : decode cX11_piece 17 = .ok (.iconst (-1), 1) := by decide +kernel
theorem dX11_piece_18 : decode cX11_piece 18 = .ok (.if_icmp .eq 49, 3) := by decide +kernel
theorem dX11_piece_21 : decode cX11_piece 21 = .ok (.aload_n 0, 1) := by decide +kernel
theorem dX11_piece_22 : decode cX11_piece 22 = .ok (.getfield 78, 3) := by decide +kernel
theorem dX11_piece_25 : decode cX11_piece 25 = .ok (.iload_n 3, 1) := by decide +kernel
theorem dX11_piece_26 : decode cX11_piece 26 = .ok (.ishr, 1) := by decide +kernel
theorem dX11_piece_27 : decode cX11_piece 27 = .ok (.iconst 1, 1) := by decide +kernel
theorem dX11_piece_28 : decode cX11_piece 28 = .ok (.iand, 1) := by decide +kernel
theorem dX11_piece_29 : decode cX11_piece 29 = .ok (.iconst 1, 1) := by decide +kernel
theorem dX11_piece_30 : decode cX11_piece 30 = .ok (.if_icmp .eq 37, 3) := by decide +kernel
theorem dX11_piece_33 : decode cX11_piece 33 = .ok (.iload_n 3, 1) := by decide +kernel
theorem dX11_piece_34 : decode cX11_piece 34 = .ok (.iconst 5, 1) := by decide +kernel
theorem dX11_piece_35 : decode cX11_piece 35 = .ok (.if_icmp .ne 15, 3) := by decide +kernel
theorem dX11_piece_38 : decode cX11_piece 38 = .ok (.aload_n 0, 1) := by decide +kernel
theorem dX11_piece_39 : decode cX11_piece 39 = .ok (.getfield 78, 3) := by decide +kernel
theorem dX11_piece_42 : decode cX11_piece 42 = .ok (.iconst 3, 1) := by decide +kernel
theorem dX11_piece_43 : decode cX11_piece 43 = .ok (.ishr, 1) := by decide +kernel
theorem dX11_piece_44 : decode cX11_piece 44 = .ok (.iconst 1, 1) := by decide +kernel
theorem dX11_piece_45 : decode cX11_piece 45 = .ok (.iand, 1) := by decide +kernel
theorem dX11_piece_46 : decode cX11_piece 46 = .ok (.iconst 1, 1) := by decide +kernel
theorem dX11_piece_47 : decode cX11_piece 47 = .ok (.if_icmp .eq 20, 3) := by decide +kernel
theorem dX11_piece_50 : decode cX11_piece 50 = .ok (.iload_n 3, 1) := by decide +kernel
theorem dX11_piece_51 : decode cX11_piece 51 = .ok (.iconst 3, 1) := by decide +kernel
theorem dX11_piece_52 : decode cX11_piece 52 = .ok (.if_icmp .ne 19, 3) := by decide +kernel
theorem dX11_piece_55 : decode cX11_piece 55 = .ok (.aload_n 0, 1) := by decide +kernel
theorem dX11_piece_56 : decode cX11_piece 56 = .ok (.getfield 78, 3) := by decide +kernel
theorem dX11_piece_59 : decode cX11_piece 59 = .ok (.iconst 5, 1) := by decide +kernel
theorem dX11_piece_60 : decode cX11_piece 60 = .ok (.ishr, 1) := by decide +kernel
theorem dX11_piece_61 : decode cX11_piece 61 = .ok (.iconst 1, 1) := by decide +kernel
theorem dX11_piece_62 : decode cX11_piece 62 = .ok (.iand, 1) := by decide +kernel
theorem dX11_piece_63 : decode cX11_piece 63 = .ok (.iconst 1, 1) := by decide +kernel
theorem dX11_piece_64 : decode cX11_piece 64 = .ok (.if_icmp .ne 7, 3) := by decide +kernel
theorem dX11_piece_67 : decode cX11_piece 67 = .ok (.iconst 1, 1) := by decide +kernel
theorem dX11_piece_68 : decode cX11_piece 68 = .ok (.goto 4, 3) := by decide +kernel
theorem dX11_piece_71 : decode cX11_piece 71 = .ok (.iconst 0, 1) := by decide +kernel
theorem dX11_piece_72 : decode cX11_piece 72 = .ok (.istore 4, 2) := by decide +kernel
theorem dX11_piece_74 : decode cX11_piece 74 = .ok (.iload 4, 2) := by decide +kernel
theorem dX11_piece_76 : decode cX11_piece 76 = .ok (.ifCond .eq 12, 3) := by decide +kernel
theorem dX11_piece_79 : decode cX11_piece 79 = .ok (.aload_n 0, 1) := by decide +kernel
theorem dX11_piece_80 : decode cX11_piece 80 = .ok (.aload_n 0, 1) := by decide +kernel
theorem dX11_piece_81 : decode cX11_piece 81 = .ok (.getfield 24, 3) := by decide +kernel
theorem dX11_piece_84 : decode cX11_piece 84 = .ok (.invokevirtual 69, 3) := by decide +kernel
theorem dX11_piece_87 : decode cX11_piece 87 = .ok (.return_, 1) := by decide +kernel
theorem dX11_piece_88 : decode cX11_piece 88 = .ok (.aload_n 0, 1) := by decide +kernel
theorem dX11_piece_89 : decode cX11_piece 89 = .ok (.dup, 1) := by decide +kernel
theorem dX11_piece_90 : decode cX11_piece 90 = .ok (.getfield 78, 3) := by decide +kernel
theorem dX11_piece_93 : decode cX11_piece 93 = .ok (.iconst 1, 1) := by decide +kernel
theorem dX11_piece_94 : decode cX11_piece 94 = .ok (.iload_n 3, 1) := by decide +kernel
theorem dX11_piece_95 : decode cX11_piece 95 = .ok (.ishl, 1) := by decide +kernel
theorem dX11_piece_96 : decode cX11_piece 96 = .ok (.ior, 1) := by decide +kernel
theorem dX11_piece_97 : decode cX11_piece 97 = .ok (.putfield 78, 3) := by decide +kernel
theorem dX11_piece_100 : decode cX11_piece 100 = .ok (.aload_n 0, 1) := by decide +kernel
theorem dX11_piece_101 : decode cX11_piece 101 = .ok (.iload_n 2, 1) := by decide +kernel
theorem dX11_piece_102 : decode cX11_piece 102 = .ok (.putfield 24, 3) := by decide +kernel
theorem dX11_piece_105 : decode cX11_piece 105 = .ok (.aload_n 0, 1) := by decide +kernel
theorem dX11_piece_106 : decode cX11_piece 106 = .ok (.getfield 81, 3) := by decide +kernel
theorem dX11_piece_109 : decode cX11_piece 109 = .ok (.iload_n 3, 1) := by decide +kernel
theorem dX11_piece_110 : decode cX11_piece 110 = .ok (.iconst 1, 1) := by decide +kernel
theorem dX11_piece_111 : decode cX11_piece 111 = .ok (.iastore, 1) := by decide +kernel
theorem dX11_piece_112 : decode cX11_piece 112 = .ok (.iload_n 3, 1) := by decide +kernel
theorem dX11_piece_113 : decode cX11_piece 113 = .ok (.ifCond .ne 17, 3) := by decide +kernel
theorem dX11_piece_116 : decode cX11_piece 116 = .ok (.aload_n 0, 1) := by decide +kernel
theorem dX11_piece_117 : decode cX11_piece 117 = .ok (.getfield 81, 3) := by decide +kernel
theorem dX11_piece_120 : decode cX11_piece 120 = .ok (.iconst 0, 1) := by decide +kernel
theorem dX11_piece_121 : decode cX11_piece 121 = .ok (.aload_n 0, 1) := by decide +kernel
theorem dX11_piece_122 : decode cX11_piece 122 = .ok (.bipush 6, 2) := by decide +kernel
theorem dX11_piece_124 : decode cX11_piece 124 = .ok (.bipush 22, 2) := by decide +kernel
theorem dX11_piece_126 : decode cX11_piece 126 = .ok (.invokevirtual 85, 3) := by decide +kernel
theorem dX11_piece_129 : decode cX11_piece 129 = .ok (.iastore, 1) := by decide +kernel
theorem dX11_piece_130 : decode cX11_piece 130 = .ok (.iload_n 3, 1) := by decide +kernel
theorem dX11_piece_131 : decode cX11_piece 131 = .ok (.iconst 1, 1) := by decide +kernel
theorem dX11_piece_132 : decode cX11_piece 132 = .ok (.if_icmp .ne 15, 3) := by decide +kernel
theorem dX11_piece_135 : decode cX11_piece 135 = .ok (.aload_n 0, 1) := by decide +kernel
theorem dX11_piece_136 : decode cX11_piece 136 = .ok (.getfield 81, 3) := by decide +kernel
theorem dX11_piece_139 : decode cX11_piece 139 = .ok (.iconst 1, 1) := by decide +kernel
theorem dX11_piece_140 : decode cX11_piece 140 = .ok (.aload_n 0, 1) := by decide +kernel
theorem dX11_piece_141 : decode cX11_piece 141 = .ok (.iconst 0, 1) := by decide +kernel
theorem dX11_piece_142 : decode cX11_piece 142 = .ok (.iconst 4, 1) := by decide +kernel
theorem dX11_piece_143 : decode cX11_piece 143 = .ok (.invokevirtual 85, 3) := by decide +kernel
theorem dX11_piece_146 : decode cX11_piece 146 = .ok (.iastore, 1) := by decide +kernel
theorem dX11_piece_147 : decode cX11_piece 147 = .ok (.iload_n 3, 1) := by decide +kernel
theorem dX11_piece_148 : decode cX11_piece 148 = .ok (.iconst 2, 1) := by decide +kernel
theorem dX11_piece_149 : decode cX11_piece 149 = .ok (.if_icmp .ne 16, 3) := by decide +kernel
theorem dX11_piece_152 : decode cX11_piece 152 = .ok (.aload_n 0, 1) := by decide +kernel
theorem dX11_piece_153 : decode cX11_piece 153 = .ok (.getfield 81, 3) := by decide +kernel
theorem dX11_piece_156 : decode cX11_piece 156 = .ok (.iconst 2, 1) := by decide +kernel
theorem dX11_piece_157 : decode cX11_piece 157 = .ok (.aload_n 0, 1) := by decide +kernel
theorem dX11_piece_158 : decode cX11_piece 158 = .ok (.iconst 5, 1) := by decide +kernel
theorem dX11_piece_159 : decode cX11_piece 159 = .ok (.bipush 24, 2) := by decide +kernel
theorem dX11_piece_161 : decode cX11_piece 161 = .ok (.invokevirtual 85, 3) := by decide +kernel
theorem dX11_piece_164 : decode cX11_piece 164 = .ok (.iastore, 1) := by decide +kernel
theorem dX11_piece_165 : decode cX11_piece 165 = .ok (.iload_n 3, 1) := by decide +kernel
theorem dX11_piece_166 : decode cX11_piece 166 = .ok (.iconst 3, 1) := by decide +kernel
theorem dX11_piece_167 : decode cX11_piece 167 = .ok (.if_icmp .ne 16, 3) := by decide +kernel
theorem dX11_piece_170 : decode cX11_piece 170 = .ok (.aload_n 0, 1) := by decide +kernel
theorem dX11_piece_171 : decode cX11_piece 171 = .ok (.getfield 81, 3) := by decide +kernel
theorem dX11_piece_174 : decode cX11_piece 174 = .ok (.iconst 3, 1) := by decide +kernel
theorem dX11_piece_175 : decode cX11_piece 175 = .ok (.aload_n 0, 1) := by decide +kernel
theorem dX11_piece_176 : decode cX11_piece 176 = .ok (.iconst 1, 1) := by decide +kernel
theorem dX11_piece_177 : decode cX11_piece 177 = .ok (.bipush 12, 2) := by decide +kernel
theorem dX11_piece_179 : decode cX11_piece 179 = .ok (.invokevirtual 85, 3) := by decide +kernel
theorem dX11_piece_182 : decode cX11_piece 182 = .ok (.iastore, 1) := by decide +kernel
theorem dX11_piece_183 : decode cX11_piece 183 = .ok (.return_, 1) := by decide +kernel
theorem dX11_readsUnit_0 : decode cX11_readsUnit 0 = .ok (.aload_n 0, 1) := by decide +kernel
theorem dX11_readsUnit_1 : decode cX11_readsUnit 1 = .ok (.iconst 0, 1) := by decide +kernel
theorem dX11_readsUnit_2 : decode cX11_readsUnit 2 = .ok (.putfield 24, 3) := by decide +kernel
theorem dX11_readsUnit_5 : decode cX11_readsUnit 5 = .ok (.aload_n 0, 1) := by decide +kernel
theorem dX11_readsUnit_6 : decode cX11_readsUnit 6 = .ok (.iconst (-1), 1) := by decide +kernel
theorem dX11_readsUnit_7 : decode cX11_readsUnit 7 = .ok (.putfield 31, 3) := by decide +kernel
theorem dX11_readsUnit_10 : decode cX11_readsUnit 10 = .ok (.aload_n 0, 1) := by decide +kernel
theorem dX11_readsUnit_11 : decode cX11_readsUnit 11 = .ok (.iconst 0, 1) := by decide +kernel
theorem dX11_readsUnit_12 : decode cX11_readsUnit 12 = .ok (.putfield 78, 3) := by decide +kernel
theorem dX11_readsUnit_15 : decode cX11_readsUnit 15 = .ok (.iconst 0, 1) := by decide +kernel
theorem dX11_readsUnit_16 : decode cX11_readsUnit 16 = .ok (.istore_n 1, 1) := by decide +kernel
theorem dX11_readsUnit_17 : decode cX11_readsUnit 17 = .ok (.iload_n 1, 1) := by decide +kernel
theorem dX11_readsUnit_18 : decode cX11_readsUnit 18 = .ok (.bipush 6, 2) := by decide +kernel
theorem dX11_readsUnit_20 : decode cX11_readsUnit 20 = .ok (.if_icmp .ge 16, 3) := by decide +kernel
theorem dX11_readsUnit_23 : decode cX11_readsUnit 23 = .ok (.aload_n 0, 1) := by decide +kernel
theorem dX11_readsUnit_24 : decode cX11_readsUnit 24 = .ok (.getfield 81, 3) := by decide +kernel
theorem dX11_readsUnit_27 : decode cX11_readsUnit 27 = .ok (.iload_n 1, 1) := by decide +kernel
theorem dX11_readsUnit_28 : decode cX11_readsUnit 28 = .ok (.iconst 0, 1) := by decide +kernel
theorem dX11_readsUnit_29 : decode cX11_readsUnit 29 = .ok (.iastore, 1) := by decide +kernel
theorem dX11_readsUnit_30 : decode cX11_readsUnit 30 = .ok (.iinc 1 1, 3) := by decide +kernel
theorem dX11_readsUnit_33 : decode cX11_readsUnit 33 = .ok (.goto (-16), 3) := by decide +kernel
theorem dX11_readsUnit_36 : decode cX11_readsUnit 36 = .ok (.aload_n 0, 1) := by decide +kernel
theorem dX11_readsUnit_37 : decode cX11_readsUnit 37 = .ok (.getfield 81, 3) := by decide +kernel
theorem dX11_readsUnit_40 : decode cX11_readsUnit 40 = .ok (.iconst 1, 1) := by decide +kernel
theorem dX11_readsUnit_41 : decode cX11_readsUnit 41 = .ok (.iconst 2, 1) := by decide +kernel
theorem dX11_readsUnit_42 : decode cX11_readsUnit 42 = .ok (.iastore, 1) := by decide +kernel
theorem dX11_readsUnit_43 : decode cX11_readsUnit 43 = .ok (.aload_n 0, 1) := by decide +kernel
theorem dX11_readsUnit_44 : decode cX11_readsUnit 44 = .ok (.invokevirtual 89, 3) := by decide +kernel
theorem dX11_readsUnit_47 : decode cX11_readsUnit 47 = .ok (.aload_n 0, 1) := by decide +kernel
theorem dX11_readsUnit_48 : decode cX11_readsUnit 48 = .ok (.getfield 31, 3) := by decide +kernel
theorem dX11_readsUnit_51 : decode cX11_readsUnit 51 = .ok (.iconst (-1), 1) := by decide +kernel
theorem dX11_readsUnit_52 : decode cX11_readsUnit 52 = .ok (.if_icmp .ne 29, 3) := by decide +kernel
theorem dX11_readsUnit_55 : decode cX11_readsUnit 55 = .ok (.aload_n 0, 1) := by decide +kernel
theorem dX11_readsUnit_56 : decode cX11_readsUnit 56 = .ok (.invokevirtual 58, 3) := by decide +kernel
theorem dX11_readsUnit_59 : decode cX11_readsUnit 59 = .ok (.bipush 59, 2) := by decide +kernel
theorem dX11_readsUnit_61 : decode cX11_readsUnit 61 = .ok (.if_icmp .ne 20, 3) := by decide +kernel
theorem dX11_readsUnit_64 : decode cX11_readsUnit 64 = .ok (.aload_n 0, 1) := by decide +kernel
theorem dX11_readsUnit_65 : decode cX11_readsUnit 65 = .ok (.dup, 1) := by decide +kernel
theorem dX11_readsUnit_66 : decode cX11_readsUnit 66 = .ok (.getfield 24, 3) := by decide +kernel
theorem dX11_readsUnit_69 : decode cX11_readsUnit 69 = .ok (.iconst 1, 1) := by decide +kernel
theorem dX11_readsUnit_70 : decode cX11_readsUnit 70 = .ok (.iadd, 1) := by decide +kernel
theorem dX11_readsUnit_71 : decode cX11_readsUnit 71 = .ok (.putfield 24, 3) := by decide +kernel
theorem dX11_readsUnit_74 : decode cX11_readsUnit 74 = .ok (.aload_n 0, 1) := by decide +kernel
theorem dX11_readsUnit_75 : decode cX11_readsUnit 75 = .ok (.invokevirtual 89, 3) := by decide +kernel
theorem dX11_readsUnit_78 : decode cX11_readsUnit 78 = .ok (.goto (-31), 3) := by decide +kernel
theorem dX11_readsUnit_81 : decode cX11_readsUnit 81 = .ok (.aload_n 0, 1) := by decide +kernel
theorem dX11_readsUnit_82 : decode cX11_readsUnit 82 = .ok (.getfield 31, 3) := by decide +kernel
theorem dX11_readsUnit_85 : decode cX11_readsUnit 85 = .ok (.iconst (-1), 1) := by decide +kernel
theorem dX11_readsUnit_86 : decode cX11_readsUnit 86 = .ok (.if_icmp .ne 29, 3) := by decide +kernel
theorem dX11_readsUnit_89 : decode cX11_readsUnit 89 = .ok (.aload_n 0, 1) := by decide +kernel
theorem dX11_readsUnit_90 : decode cX11_readsUnit 90 = .ok (.invokevirtual 58, 3) := by decide +kernel
theorem dX11_readsUnit_93 : decode cX11_readsUnit 93 = .ok (.iconst (-1), 1) := by decide +kernel
theorem dX11_readsUnit_94 : decode cX11_readsUnit 94 = .ok (.if_icmp .ne 13, 3) := by decide +kernel
theorem dX11_readsUnit_97 : decode cX11_readsUnit 97 = .ok (.aload_n 0, 1) := by decide +kernel
theorem dX11_readsUnit_98 : decode cX11_readsUnit 98 = .ok (.getfield 78, 3) := by decide +kernel
theorem dX11_readsUnit_101 : decode cX11_readsUnit 101 = .ok (.iconst 5, 1) := by decide +kernel
theorem dX11_readsUnit_102 : decode cX11_readsUnit 102 = .ok (.iand, 1) := by decide +kernel
theorem dX11_readsUnit_103 : decode cX11_readsUnit 103 = .ok (.iconst 5, 1) := by decide +kernel
theorem dX11_readsUnit_104 : decode cX11_readsUnit 104 = .ok (.if_icmp .eq 11, 3) := by decide +kernel
theorem dX11_readsUnit_107 : decode cX11_readsUnit 107 = .ok (.aload_n 0, 1) := by decide +kernel
theorem dX11_readsUnit_108 : decode cX11_readsUnit 108 = .ok (.aload_n 0, 1) := by decide +kernel
theorem dX11_readsUnit_109 : decode cX11_readsUnit 109 = .ok (.getfield 24, 3) := by decide +kernel
theorem dX11_readsUnit_112 : decode cX11_readsUnit 112 = .ok (.invokevirtual 69, 3) := by decide +kernel
theorem dX11_readsUnit_115 : decode cX11_readsUnit 115 = .ok (.aload_n 0, 1) := by decide +kernel
theorem dX11_readsUnit_116 : decode cX11_readsUnit 116 = .ok (.getfield 31, 3) := by decide +kernel
theorem dX11_readsUnit_119 : decode cX11_readsUnit 119 = .ok (.ireturn, 1) := by decide +kernel
theorem dX11_fault_0 : decode cX11_fault 0 = .ok (.aload_n 0, 1) := by decide +kernel
theorem dX11_fault_1 : decode cX11_fault 1 = .ok (.iconst 0, 1) := by decide +kernel
theorem dX11_fault_2 : decode cX11_fault 2 = .ok (.putfield 5, 3) := by decide +kernel
theorem dX11_fault_5 : decode cX11_fault 5 = .ok (.iload_n 1, 1) := by decide +kernel
theorem dX11_fault_6 : decode cX11_fault 6 = .ok (.ifCond .ne 10, 3) := by decide +kernel
theorem dX11_fault_9 : decode cX11_fault 9 = .ok (.aload_n 0, 1) := by decide +kernel
theorem dX11_fault_10 : decode cX11_fault 10 = .ok (.invokevirtual 93, 3) := by decide +kernel
theorem dX11_fault_13 : decode cX11_fault 13 = .ok (.goto 17, 3) := by decide +kernel
theorem dX11_fault_16 : decode cX11_fault 16 = .ok (.iload_n 1, 1) := by decide +kernel
theorem dX11_fault_17 : decode cX11_fault 17 = .ok (.iconst 1, 1) := by decide +kernel
theorem dX11_fault_18 : decode cX11_fault 18 = .ok (.if_icmp .ne 10, 3) := by decide +kernel
theorem dX11_fault_21 : decode cX11_fault 21 = .ok (.aload_n 0, 1) := by decide +kernel
theorem dX11_fault_22 : decode cX11_fault 22 = .ok (.invokevirtual 96, 3) := by decide +kernel
theorem dX11_fault_25 : decode cX11_fault 25 = .ok (.goto 5, 3) := by decide +kernel
theorem dX11_fault_28 : decode cX11_fault 28 = .ok (.bipush (-2), 2) := by decide +kernel
theorem dX11_fault_30 : decode cX11_fault 30 = .ok (.ireturn, 1) := by decide +kernel
theorem dX11_kindHere_0 : decode cX11_kindHere 0 = .ok (.aload_n 0, 1) := by decide +kernel
theorem dX11_kindHere_1 : decode cX11_kindHere 1 = .ok (.ldc 99, 2) := by decide +kernel
theorem dX11_kindHere_3 : decode cX11_kindHere 3 = .ok (.iload_n 1, 1) := by decide +kernel
theorem dX11_kindHere_4 : decode cX11_kindHere 4 = .ok (.invokevirtual 44, 3) := by decide +kernel
theorem dX11_kindHere_7 : decode cX11_kindHere 7 = .ok (.ifCond .eq 5, 3) := by decide +kernel
theorem dX11_kindHere_10 : decode cX11_kindHere 10 = .ok (.iconst 0, 1) := by decide +kernel
theorem dX11_kindHere_11 : decode cX11_kindHere 11 = .ok (.ireturn, 1) := by decide +kernel
theorem dX11_kindHere_12 : decode cX11_kindHere 12 = .ok (.aload_n 0, 1) := by decide +kernel
theorem dX11_kindHere_13 : decode cX11_kindHere 13 = .ok (.ldc 101, 2) := by decide +kernel
theorem dX11_kindHere_15 : decode cX11_kindHere 15 = .ok (.iload_n 1, 1) := by decide +kernel
theorem dX11_kindHere_16 : decode cX11_kindHere 16 = .ok (.invokevirtual 44, 3) := by decide +kernel
theorem dX11_kindHere_19 : decode cX11_kindHere 19 = .ok (.ifCond .eq 5, 3) := by decide +kernel
theorem dX11_kindHere_22 : decode cX11_kindHere 22 = .ok (.iconst 1, 1) := by decide +kernel
theorem dX11_kindHere_23 : decode cX11_kindHere 23 = .ok (.ireturn, 1) := by decide +kernel
theorem dX11_kindHere_24 : decode cX11_kindHere 24 = .ok (.aload_n 0, 1) := by decide +kernel
theorem dX11_kindHere_25 : decode cX11_kindHere 25 = .ok (.ldc 103, 2) := by decide +kernel
theorem dX11_kindHere_27 : decode cX11_kindHere 27 = .ok (.iload_n 1, 1) := by decide +kernel
theorem dX11_kindHere_28 : decode cX11_kindHere 28 = .ok (.invokevirtual 44, 3) := by decide +kernel
theorem dX11_kindHere_31 : decode cX11_kindHere 31 = .ok (.ifCond .eq 5, 3) := by decide +kernel
theorem dX11_kindHere_34 : decode cX11_kindHere 34 = .ok (.iconst 2, 1) := by decide +kernel
theorem dX11_kindHere_35 : decode cX11_kindHere 35 = .ok (.ireturn, 1) := by decide +kernel
theorem dX11_kindHere_36 : decode cX11_kindHere 36 = .ok (.aload_n 0, 1) := by decide +kernel
theorem dX11_kindHere_37 : decode cX11_kindHere 37 = .ok (.ldc 105, 2) := by decide +kernel
theorem dX11_kindHere_39 : decode cX11_kindHere 39 = .ok (.iload_n 1, 1) := by decide +kernel
theorem dX11_kindHere_40 : decode cX11_kindHere 40 = .ok (.invokevirtual 44, 3) := by decide +kernel
theorem dX11_kindHere_43 : decode cX11_kindHere 43 = .ok (.ifCond .eq 5, 3) := by decide +kernel
theorem dX11_kindHere_46 : decode cX11_kindHere 46 = .ok (.iconst 3, 1) := by decide +kernel
theorem dX11_kindHere_47 : decode cX11_kindHere 47 = .ok (.ireturn, 1) := by decide +kernel
theorem dX11_kindHere_48 : decode cX11_kindHere 48 = .ok (.aload_n 0, 1) := by decide +kernel
theorem dX11_kindHere_49 : decode cX11_kindHere 49 = .ok (.ldc 107, 2) := by decide +kernel
theorem dX11_kindHere_51 : decode cX11_kindHere 51 = .ok (.iload_n 1, 1) := by decide +kernel
theorem dX11_kindHere_52 : decode cX11_kindHere 52 = .ok (.invokevirtual 44, 3) := by decide +kernel
theorem dX11_kindHere_55 : decode cX11_kindHere 55 = .ok (.ifCond .eq 5, 3) := by decide +kernel
theorem dX11_kindHere_58 : decode cX11_kindHere 58 = .ok (.iconst 4, 1) := by decide +kernel
theorem dX11_kindHere_59 : decode cX11_kindHere 59 = .ok (.ireturn, 1) := by decide +kernel
theorem dX11_kindHere_60 : decode cX11_kindHere 60 = .ok (.aload_n 0, 1) := by decide +kernel
theorem dX11_kindHere_61 : decode cX11_kindHere 61 = .ok (.ldc 109, 2) := by decide +kernel
theorem dX11_kindHere_63 : decode cX11_kindHere 63 = .ok (.iload_n 1, 1) := by decide +kernel
theorem dX11_kindHere_64 : decode cX11_kindHere 64 = .ok (.invokevirtual 44, 3) := by decide +kernel
theorem dX11_kindHere_67 : decode cX11_kindHere 67 = .ok (.ifCond .eq 5, 3) := by decide +kernel
theorem dX11_kindHere_70 : decode cX11_kindHere 70 = .ok (.iconst 5, 1) := by decide +kernel
theorem dX11_kindHere_71 : decode cX11_kindHere 71 = .ok (.ireturn, 1) := by decide +kernel
theorem dX11_kindHere_72 : decode cX11_kindHere 72 = .ok (.aload_n 0, 1) := by decide +kernel
theorem dX11_kindHere_73 : decode cX11_kindHere 73 = .ok (.ldc 111, 2) := by decide +kernel
theorem dX11_kindHere_75 : decode cX11_kindHere 75 = .ok (.iload_n 1, 1) := by decide +kernel
theorem dX11_kindHere_76 : decode cX11_kindHere 76 = .ok (.invokevirtual 44, 3) := by decide +kernel
theorem dX11_kindHere_79 : decode cX11_kindHere 79 = .ok (.ifCond .eq 6, 3) := by decide +kernel
theorem dX11_kindHere_82 : decode cX11_kindHere 82 = .ok (.bipush 6, 2) := by decide +kernel
theorem dX11_kindHere_84 : decode cX11_kindHere 84 = .ok (.ireturn, 1) := by decide +kernel
theorem dX11_kindHere_85 : decode cX11_kindHere 85 = .ok (.aload_n 0, 1) := by decide +kernel
theorem dX11_kindHere_86 : decode cX11_kindHere 86 = .ok (.ldc 113, 2) := by decide +kernel
theorem dX11_kindHere_88 : decode cX11_kindHere 88 = .ok (.iload_n 1, 1) := by decide +kernel
theorem dX11_kindHere_89 : decode cX11_kindHere 89 = .ok (.invokevirtual 44, 3) := by decide +kernel
theorem dX11_kindHere_92 : decode cX11_kindHere 92 = .ok (.ifCond .eq 6, 3) := by decide +kernel
theorem dX11_kindHere_95 : decode cX11_kindHere 95 = .ok (.bipush 7, 2) := by decide +kernel
theorem dX11_kindHere_97 : decode cX11_kindHere 97 = .ok (.ireturn, 1) := by decide +kernel
theorem dX11_kindHere_98 : decode cX11_kindHere 98 = .ok (.aload_n 0, 1) := by decide +kernel
theorem dX11_kindHere_99 : decode cX11_kindHere 99 = .ok (.ldc 115, 2) := by decide +kernel
theorem dX11_kindHere_101 : decode cX11_kindHere 101 = .ok (.iload_n 1, 1) := by decide +kernel
theorem dX11_kindHere_102 : decode cX11_kindHere 102 = .ok (.invokevirtual 44, 3) := by decide +kernel
theorem dX11_kindHere_105 : decode cX11_kindHere 105 = .ok (.ifCond .eq 8, 3) := by decide +kernel
theorem dX11_kindHere_108 : decode cX11_kindHere 108 = .ok (.bipush 8, 2) := by decide +kernel
theorem dX11_kindHere_110 : decode cX11_kindHere 110 = .ok (.goto 4, 3) := by decide +kernel
theorem dX11_kindHere_113 : decode cX11_kindHere 113 = .ok (.iconst (-1), 1) := by decide +kernel
theorem dX11_kindHere_114 : decode cX11_kindHere 114 = .ok (.ireturn, 1) := by decide +kernel
theorem dX11_digits_0 : decode cX11_digits 0 = .ok (.aload_n 0, 1) := by decide +kernel
theorem dX11_digits_1 : decode cX11_digits 1 = .ok (.getfield 24, 3) := by decide +kernel
theorem dX11_digits_4 : decode cX11_digits 4 = .ok (.istore_n 1, 1) := by decide +kernel
theorem dX11_digits_5 : decode cX11_digits 5 = .ok (.aload_n 0, 1) := by decide +kernel
theorem dX11_digits_6 : decode cX11_digits 6 = .ok (.iconst 0, 1) := by decide +kernel
theorem dX11_digits_7 : decode cX11_digits 7 = .ok (.putfield 117, 3) := by decide +kernel
theorem dX11_digits_10 : decode cX11_digits 10 = .ok (.aload_n 0, 1) := by decide +kernel
theorem dX11_digits_11 : decode cX11_digits 11 = .ok (.invokevirtual 27, 3) := by decide +kernel
theorem dX11_digits_14 : decode cX11_digits 14 = .ok (.invokestatic 61, 3) := by decide +kernel
theorem dX11_digits_17 : decode cX11_digits 17 = .ok (.ifCond .eq 46, 3) := by decide +kernel
theorem dX11_digits_20 : decode cX11_digits 20 = .ok (.aload_n 0, 1) := by decide +kernel
theorem dX11_digits_21 : decode cX11_digits 21 = .ok (.getfield 24, 3) := by decide +kernel
theorem dX11_digits_24 : decode cX11_digits 24 = .ok (.iload_n 1, 1) := by decide +kernel
theorem dX11_digits_25 : decode cX11_digits 25 = .ok (.isub, 1) := by decide +kernel
theorem dX11_digits_26 : decode cX11_digits 26 = .ok (.bipush 9, 2) := by decide +kernel
theorem dX11_digits_28 : decode cX11_digits 28 = .ok (.if_icmp .ge 22, 3) := by decide +kernel
theorem dX11_digits_31 : decode cX11_digits 31 = .ok (.aload_n 0, 1) := by decide +kernel
theorem dX11_digits_32 : decode cX11_digits 32 = .ok (.bipush 10, 2) := by decide +kernel
theorem dX11_digits_34 : decode cX11_digits 34 = .ok (.aload_n 0, 1) := by decide +kernel
theorem dX11_digits_35 : decode cX11_digits 35 = .ok (.getfield 117, 3) := by decide +kernel
theorem dX11_digits_38 : decode cX11_digits 38 = .ok (.imul, 1) := by decide +kernel
theorem dX11_digits_39 : decode cX11_digits 39 = .ok (.aload_n 0, 1) := by decide +kernel
theorem dX11_digits_40 : decode cX11_digits 40 = .ok (.invokevirtual 27, 3) := by decide +kernel
theorem dX11_digits_43 : decode cX11_digits 43 = .ok (.iadd, 1) := by decide +kernel
theorem dX11_digits_44 : decode cX11_digits 44 = .ok (.bipush 48, 2) := by decide +kernel
theorem dX11_digits_46 : decode cX11_digits 46 = .ok (.isub, 1) := by decide +kernel
theorem dX11_digits_47 : decode cX11_digits 47 = .ok (.putfield 117, 3) := by decide +kernel
theorem dX11_digits_50 : decode cX11_digits 50 = .ok (.aload_n 0, 1) := by decide +kernel
theorem dX11_digits_51 : decode cX11_digits 51 = .ok (.dup, 1) := by decide +kernel
theorem dX11_digits_52 : decode cX11_digits 52 = .ok (.getfield 24, 3) := by decide +kernel
theorem dX11_digits_55 : decode cX11_digits 55 = .ok (.iconst 1, 1) := by decide +kernel
theorem dX11_digits_56 : decode cX11_digits 56 = .ok (.iadd, 1) := by decide +kernel
theorem dX11_digits_57 : decode cX11_digits 57 = .ok (.putfield 24, 3) := by decide +kernel
theorem dX11_digits_60 : decode cX11_digits 60 = .ok (.goto (-50), 3) := by decide +kernel
theorem dX11_digits_63 : decode cX11_digits 63 = .ok (.aload_n 0, 1) := by decide +kernel
theorem dX11_digits_64 : decode cX11_digits 64 = .ok (.getfield 24, 3) := by decide +kernel
theorem dX11_digits_67 : decode cX11_digits 67 = .ok (.iload_n 1, 1) := by decide +kernel
theorem dX11_digits_68 : decode cX11_digits 68 = .ok (.isub, 1) := by decide +kernel
theorem dX11_digits_69 : decode cX11_digits 69 = .ok (.ireturn, 1) := by decide +kernel
theorem dX11_operand_0 : decode cX11_operand 0 = .ok (.aload_n 0, 1) := by decide +kernel
theorem dX11_operand_1 : decode cX11_operand 1 = .ok (.invokevirtual 58, 3) := by decide +kernel
theorem dX11_operand_4 : decode cX11_operand 4 = .ok (.istore_n 3, 1) := by decide +kernel
theorem dX11_operand_5 : decode cX11_operand 5 = .ok (.aload_n 0, 1) := by decide +kernel
theorem dX11_operand_6 : decode cX11_operand 6 = .ok (.getfield 24, 3) := by decide +kernel
theorem dX11_operand_9 : decode cX11_operand 9 = .ok (.istore 4, 2) := by decide +kernel
theorem dX11_operand_11 : decode cX11_operand 11 = .ok (.iload_n 3, 1) := by decide +kernel
theorem dX11_operand_12 : decode cX11_operand 12 = .ok (.bipush 64, 2) := by decide +kernel
theorem dX11_operand_14 : decode cX11_operand 14 = .ok (.if_icmp .eq 9, 3) := by decide +kernel
theorem dX11_operand_17 : decode cX11_operand 17 = .ok (.iload_n 3, 1) := by decide +kernel
theorem dX11_operand_18 : decode cX11_operand 18 = .ok (.bipush 45, 2) := by decide +kernel
theorem dX11_operand_20 : decode cX11_operand 20 = .ok (.if_icmp .ne 13, 3) := by decide +kernel
theorem dX11_operand_23 : decode cX11_operand 23 = .ok (.aload_n 0, 1) := by decide +kernel
theorem dX11_operand_24 : decode cX11_operand 24 = .ok (.dup, 1) := by decide +kernel
theorem dX11_operand_25 : decode cX11_operand 25 = .ok (.getfield 24, 3) := by decide +kernel
theorem dX11_operand_28 : decode cX11_operand 28 = .ok (.iconst 1, 1) := by decide +kernel
theorem dX11_operand_29 : decode cX11_operand 29 = .ok (.iadd, 1) := by decide +kernel
theorem dX11_operand_30 : decode cX11_operand 30 = .ok (.putfield 24, 3) := by decide +kernel
theorem dX11_operand_33 : decode cX11_operand 33 = .ok (.aload_n 0, 1) := by decide +kernel
theorem dX11_operand_34 : decode cX11_operand 34 = .ok (.invokevirtual 120, 3) := by decide +kernel
theorem dX11_operand_37 : decode cX11_operand 37 = .ok (.istore 5, 2) := by decide +kernel
theorem dX11_operand_39 : decode cX11_operand 39 = .ok (.iload 5, 2) := by decide +kernel
theorem dX11_operand_41 : decode cX11_operand 41 = .ok (.ifCond .eq 37, 3) := by decide +kernel
theorem dX11_operand_44 : decode cX11_operand 44 = .ok (.iload 5, 2) := by decide +kernel
theorem dX11_operand_46 : decode cX11_operand 46 = .ok (.iload_n 3, 1) := by decide +kernel
theorem dX11_operand_47 : decode cX11_operand 47 = .ok (.bipush 64, 2) := by decide +kernel
theorem dX11_operand_49 : decode cX11_operand 49 = .ok (.if_icmp .ne 7, 3) := by decide +kernel
theorem dX11_operand_52 : decode cX11_operand 52 = .ok (.iconst 2, 1) := by decide +kernel
theorem dX11_operand_53 : decode cX11_operand 53 = .ok (.goto 5, 3) := by decide +kernel
theorem dX11_operand_56 : decode cX11_operand 56 = .ok (.bipush 9, 2) := by decide +kernel
theorem dX11_operand_58 : decode cX11_operand 58 = .ok (.if_icmp .gt 20, 3) := by decide +kernel
theorem dX11_operand_61 : decode cX11_operand 61 = .ok (.iload_n 3, 1) := by decide +kernel
theorem dX11_operand_62 : decode cX11_operand 62 = .ok (.bipush 64, 2) := by decide +kernel
theorem dX11_operand_64 : decode cX11_operand 64 = .ok (.if_icmp .ne 21, 3) := by decide +kernel
theorem dX11_operand_67 : decode cX11_operand 67 = .ok (.aload_n 0, 1) := by decide +kernel
theorem dX11_operand_68 : decode cX11_operand 68 = .ok (.getfield 117, 3) := by decide +kernel
theorem dX11_operand_71 : decode cX11_operand 71 = .ok (.aload_n 0, 1) := by decide +kernel
theorem dX11_operand_72 : decode cX11_operand 72 = .ok (.getfield 123, 3) := by decide +kernel
theorem dX11_operand_75 : decode cX11_operand 75 = .ok (.if_icmp .lt 10, 3) := by decide +kernel
theorem dX11_operand_78 : decode cX11_operand 78 = .ok (.aload_n 0, 1) := by decide +kernel
theorem dX11_operand_79 : decode cX11_operand 79 = .ok (.iload 4, 2) := by decide +kernel
theorem dX11_operand_81 : decode cX11_operand 81 = .ok (.invokevirtual 69, 3) := by decide +kernel
theorem dX11_operand_84 : decode cX11_operand 84 = .ok (.return_, 1) := by decide +kernel
theorem dX11_operand_85 : decode cX11_operand 85 = .ok (.aload_n 0, 1) := by decide +kernel
theorem dX11_operand_86 : decode cX11_operand 86 = .ok (.getfield 126, 3) := by decide +kernel
theorem dX11_operand_89 : decode cX11_operand 89 = .ok (.iload_n 1, 1) := by decide +kernel
theorem dX11_operand_90 : decode cX11_operand 90 = .ok (.iconst 4, 1) := by decide +kernel
theorem dX11_operand_91 : decode cX11_operand 91 = .ok (.iadd, 1) := by decide +kernel
theorem dX11_operand_92 : decode cX11_operand 92 = .ok (.iload_n 2, 1) := by decide +kernel
theorem dX11_operand_93 : decode cX11_operand 93 = .ok (.iadd, 1) := by decide +kernel
theorem dX11_operand_94 : decode cX11_operand 94 = .ok (.iconst (-1), 1) := by decide +kernel
theorem dX11_operand_95 : decode cX11_operand 95 = .ok (.iastore, 1) := by decide +kernel
theorem dX11_operand_96 : decode cX11_operand 96 = .ok (.iload_n 3, 1) := by decide +kernel
theorem dX11_operand_97 : decode cX11_operand 97 = .ok (.bipush 64, 2) := by decide +kernel
theorem dX11_operand_99 : decode cX11_operand 99 = .ok (.if_icmp .eq 32, 3) := by decide +kernel
theorem dX11_operand_102 : decode cX11_operand 102 = .ok (.aload_n 0, 1) := by decide +kernel
theorem dX11_operand_103 : decode cX11_operand 103 = .ok (.getfield 126, 3) := by decide +kernel
theorem dX11_operand_106 : decode cX11_operand 106 = .ok (.iload_n 1, 1) := by decide +kernel
theorem dX11_operand_107 : decode cX11_operand 107 = .ok (.iconst 1, 1) := by decide +kernel
theorem dX11_operand_108 : decode cX11_operand 108 = .ok (.iadd, 1) := by decide +kernel
theorem dX11_operand_109 : decode cX11_operand 109 = .ok (.iload_n 2, 1) := by decide +kernel
theorem dX11_operand_110 : decode cX11_operand 110 = .ok (.iadd, 1) := by decide +kernel
theorem dX11_operand_111 : decode cX11_operand 111 = .ok (.iload_n 3, 1) := by decide +kernel
theorem dX11_operand_112 : decode cX11_operand 112 = .ok (.bipush 45, 2) := by decide +kernel
theorem dX11_operand_114 : decode cX11_operand 114 = .ok (.if_icmp .ne 11, 3) := by decide +kernel
theorem dX11_operand_117 : decode cX11_operand 117 = .ok (.aload_n 0, 1) := by decide +kernel
theorem dX11_operand_118 : decode cX11_operand 118 = .ok (.getfield 117, 3) := by decide +kernel
theorem dX11_operand_121 : decode cX11_operand 121 = .ok (.ineg, 1) := by decide +kernel
theorem dX11_operand_122 : decode cX11_operand 122 = .ok (.goto 7, 3) := by decide +kernel
theorem dX11_operand_125 : decode cX11_operand 125 = .ok (.aload_n 0, 1) := by decide +kernel
theorem dX11_operand_126 : decode cX11_operand 126 = .ok (.getfield 117, 3) := by decide +kernel
theorem dX11_operand_129 : decode cX11_operand 129 = .ok (.iastore, 1) := by decide +kernel
theorem dX11_operand_130 : decode cX11_operand 130 = .ok (.return_, 1) := by decide +kernel
theorem dX11_operand_131 : decode cX11_operand 131 = .ok (.aload_n 0, 1) := by decide +kernel
theorem dX11_operand_132 : decode cX11_operand 132 = .ok (.invokevirtual 27, 3) := by decide +kernel
theorem dX11_operand_135 : decode cX11_operand 135 = .ok (.bipush 39, 2) := by decide +kernel
theorem dX11_operand_137 : decode cX11_operand 137 = .ok (.if_icmp .ne 7, 3) := by decide +kernel
theorem dX11_operand_140 : decode cX11_operand 140 = .ok (.iconst 1, 1) := by decide +kernel
theorem dX11_operand_141 : decode cX11_operand 141 = .ok (.goto 4, 3) := by decide +kernel
theorem dX11_operand_144 : decode cX11_operand 144 = .ok (.iconst 0, 1) := by decide +kernel
theorem dX11_operand_145 : decode cX11_operand 145 = .ok (.istore 6, 2) := by decide +kernel
theorem dX11_operand_147 : decode cX11_operand 147 = .ok (.aload_n 0, 1) := by decide +kernel
theorem dX11_operand_148 : decode cX11_operand 148 = .ok (.dup, 1) := by decide +kernel
theorem dX11_operand_149 : decode cX11_operand 149 = .ok (.getfield 24, 3) := by decide +kernel
theorem dX11_operand_152 : decode cX11_operand 152 = .ok (.iload 6, 2) := by decide +kernel
theorem dX11_operand_154 : decode cX11_operand 154 = .ok (.iadd, 1) := by decide +kernel
theorem dX11_operand_155 : decode cX11_operand 155 = .ok (.putfield 24, 3) := by decide +kernel
theorem dX11_operand_158 : decode cX11_operand 158 = .ok (.aload_n 0, 1) := by decide +kernel
theorem dX11_operand_159 : decode cX11_operand 159 = .ok (.getfield 126, 3) := by decide +kernel
theorem dX11_operand_162 : decode cX11_operand 162 = .ok (.iload_n 1, 1) := by decide +kernel
theorem dX11_operand_163 : decode cX11_operand 163 = .ok (.iconst 4, 1) := by decide +kernel
theorem dX11_operand_164 : decode cX11_operand 164 = .ok (.iadd, 1) := by decide +kernel
theorem dX11_operand_165 : decode cX11_operand 165 = .ok (.iload_n 2, 1) := by decide +kernel
theorem dX11_operand_166 : decode cX11_operand 166 = .ok (.iadd, 1) := by decide +kernel
theorem dX11_operand_167 : decode cX11_operand 167 = .ok (.iconst 2, 1) := by decide +kernel
theorem dX11_operand_168 : decode cX11_operand 168 = .ok (.aload_n 0, 1) := by decide +kernel
theorem dX11_operand_169 : decode cX11_operand 169 = .ok (.getfield 117, 3) := by decide +kernel
theorem dX11_operand_172 : decode cX11_operand 172 = .ok (.imul, 1) := by decide +kernel
theorem dX11_operand_173 : decode cX11_operand 173 = .ok (.iload 6, 2) := by decide +kernel
theorem dX11_operand_175 : decode cX11_operand 175 = .ok (.iadd, 1) := by decide +kernel
theorem dX11_operand_176 : decode cX11_operand 176 = .ok (.iastore, 1) := by decide +kernel
theorem dX11_operand_177 : decode cX11_operand 177 = .ok (.return_, 1) := by decide +kernel
theorem dX11_namesOf_0 : decode cX11_namesOf 0 = .ok (.iload_n 0, 1) := by decide +kernel
theorem dX11_namesOf_1 : decode cX11_namesOf 1 = .ok (.bipush 8, 2) := by decide +kernel
theorem dX11_namesOf_3 : decode cX11_namesOf 3 = .ok (.if_icmp .ne 7, 3) := by decide +kernel
theorem dX11_namesOf_6 : decode cX11_namesOf 6 = .ok (.iconst 3, 1) := by decide +kernel
theorem dX11_namesOf_7 : decode cX11_namesOf 7 = .ok (.goto 23, 3) := by decide +kernel
theorem dX11_namesOf_10 : decode cX11_namesOf 10 = .ok (.iload_n 0, 1) := by decide +kernel
theorem dX11_namesOf_11 : decode cX11_namesOf 11 = .ok (.iconst 1, 1) := by decide +kernel
theorem dX11_namesOf_12 : decode cX11_namesOf 12 = .ok (.if_icmp .eq 13, 3) := by decide +kernel
theorem dX11_namesOf_15 : decode cX11_namesOf 15 = .ok (.iload_n 0, 1) := by decide +kernel
theorem dX11_namesOf_16 : decode cX11_namesOf 16 = .ok (.iconst 2, 1) := by decide +kernel
theorem dX11_namesOf_17 : decode cX11_namesOf 17 = .ok (.if_icmp .eq 8, 3) := by decide +kernel
theorem dX11_namesOf_20 : decode cX11_namesOf 20 = .ok (.iload_n 0, 1) := by decide +kernel
theorem dX11_namesOf_21 : decode cX11_namesOf 21 = .ok (.iconst 3, 1) := by decide +kernel
theorem dX11_namesOf_22 : decode cX11_namesOf 22 = .ok (.if_icmp .ne 7, 3) := by decide +kernel
theorem dX11_namesOf_25 : decode cX11_namesOf 25 = .ok (.iconst 2, 1) := by decide +kernel
theorem dX11_namesOf_26 : decode cX11_namesOf 26 = .ok (.goto 4, 3) := by decide +kernel
theorem dX11_namesOf_29 : decode cX11_namesOf 29 = .ok (.iconst 1, 1) := by decide +kernel
theorem dX11_namesOf_30 : decode cX11_namesOf 30 = .ok (.ireturn, 1) := by decide +kernel
theorem dX11_orderLine_0 : decode cX11_orderLine 0 = .ok (.aload_n 0, 1) := by decide +kernel
theorem dX11_orderLine_1 : decode cX11_orderLine 1 = .ok (.invokevirtual 58, 3) := by decide +kernel
theorem dX11_orderLine_4 : decode cX11_orderLine 4 = .ok (.istore_n 1, 1) := by decide +kernel
theorem dX11_orderLine_5 : decode cX11_orderLine 5 = .ok (.aload_n 0, 1) := by decide +kernel
theorem dX11_orderLine_6 : decode cX11_orderLine 6 = .ok (.invokevirtual 72, 3) := by decide +kernel
theorem dX11_orderLine_9 : decode cX11_orderLine 9 = .ok (.istore_n 2, 1) := by decide +kernel
theorem dX11_orderLine_10 : decode cX11_orderLine 10 = .ok (.aload_n 0, 1) := by decide +kernel
theorem dX11_orderLine_11 : decode cX11_orderLine 11 = .ok (.iload_n 2, 1) := by decide +kernel
theorem dX11_orderLine_12 : decode cX11_orderLine 12 = .ok (.invokevirtual 129, 3) := by decide +kernel
theorem dX11_orderLine_15 : decode cX11_orderLine 15 = .ok (.istore_n 3, 1) := by decide +kernel
theorem dX11_orderLine_16 : decode cX11_orderLine 16 = .ok (.iload_n 3, 1) := by decide +kernel
theorem dX11_orderLine_17 : decode cX11_orderLine 17 = .ok (.iconst (-1), 1) := by decide +kernel
theorem dX11_orderLine_18 : decode cX11_orderLine 18 = .ok (.if_icmp .eq 12, 3) := by decide +kernel
theorem dX11_orderLine_21 : decode cX11_orderLine 21 = .ok (.aload_n 0, 1) := by decide +kernel
theorem dX11_orderLine_22 : decode cX11_orderLine 22 = .ok (.getfield 123, 3) := by decide +kernel
theorem dX11_orderLine_25 : decode cX11_orderLine 25 = .ok (.bipush 60, 2) := by decide +kernel
theorem dX11_orderLine_27 : decode cX11_orderLine 27 = .ok (.if_icmp .ne 12, 3) := by decide +kernel
theorem dX11_orderLine_30 : decode cX11_orderLine 30 = .ok (.aload_n 0, 1) := by decide +kernel
theorem dX11_orderLine_31 : decode cX11_orderLine 31 = .ok (.aload_n 0, 1) := by decide +kernel
theorem dX11_orderLine_32 : decode cX11_orderLine 32 = .ok (.getfield 24, 3) := by decide +kernel
theorem dX11_orderLine_35 : decode cX11_orderLine 35 = .ok (.invokevirtual 69, 3) := by decide +kernel
theorem dX11_orderLine_38 : decode cX11_orderLine 38 = .ok (.return_, 1) := by decide +kernel
theorem dX11_orderLine_39 : decode cX11_orderLine 39 = .ok (.aload_n 0, 1) := by decide +kernel
theorem dX11_orderLine_40 : decode cX11_orderLine 40 = .ok (.iload_n 2, 1) := by decide +kernel
theorem dX11_orderLine_41 : decode cX11_orderLine 41 = .ok (.putfield 24, 3) := by decide +kernel
theorem dX11_orderLine_44 : decode cX11_orderLine 44 = .ok (.bipush 7, 2) := by decide +kernel
theorem dX11_orderLine_46 : decode cX11_orderLine 46 = .ok (.aload_n 0, 1) := by decide +kernel
theorem dX11_orderLine_47 : decode cX11_orderLine 47 = .ok (.getfield 123, 3) := by decide +kernel
theorem dX11_orderLine_50 : decode cX11_orderLine 50 = .ok (.imul, 1) := by decide +kernel
theorem dX11_orderLine_51 : decode cX11_orderLine 51 = .ok (.istore 4, 2) := by decide +kernel
theorem dX11_orderLine_53 : decode cX11_orderLine 53 = .ok (.aload_n 0, 1) := by decide +kernel
theorem dX11_orderLine_54 : decode cX11_orderLine 54 = .ok (.getfield 126, 3) := by decide +kernel
theorem dX11_orderLine_57 : decode cX11_orderLine 57 = .ok (.iload 4, 2) := by decide +kernel
theorem dX11_orderLine_59 : decode cX11_orderLine 59 = .ok (.iload_n 3, 1) := by decide +kernel
theorem dX11_orderLine_60 : decode cX11_orderLine 60 = .ok (.iastore, 1) := by decide +kernel
theorem dX11_orderLine_61 : decode cX11_orderLine 61 = .ok (.iconst 0, 1) := by decide +kernel
theorem dX11_orderLine_62 : decode cX11_orderLine 62 = .ok (.istore 5, 2) := by decide +kernel
theorem dX11_orderLine_64 : decode cX11_orderLine 64 = .ok (.iload 5, 2) := by decide +kernel
theorem dX11_orderLine_66 : decode cX11_orderLine 66 = .ok (.iconst 3, 1) := by decide +kernel
theorem dX11_orderLine_67 : decode cX11_orderLine 67 = .ok (.if_icmp .ge 35, 3) := by decide +kernel
theorem dX11_orderLine_70 : decode cX11_orderLine 70 = .ok (.aload_n 0, 1) := by decide +kernel
theorem dX11_orderLine_71 : decode cX11_orderLine 71 = .ok (.getfield 126, 3) := by decide +kernel
theorem dX11_orderLine_74 : decode cX11_orderLine 74 = .ok (.iload 4, 2) := by decide +kernel
theorem dX11_orderLine_76 : decode cX11_orderLine 76 = .ok (.iconst 1, 1) := by decide +kernel
theorem dX11_orderLine_77 : decode cX11_orderLine 77 = .ok (.iadd, 1) := by decide +kernel
theorem dX11_orderLine_78 : decode cX11_orderLine 78 = .ok (.iload 5, 2) := by decide +kernel
theorem dX11_orderLine_80 : decode cX11_orderLine 80 = .ok (.iadd, 1) := by decide +kernel
theorem dX11_orderLine_81 : decode cX11_orderLine 81 = .ok (.iconst 0, 1) := by decide +kernel
theorem dX11_orderLine_82 : decode cX11_orderLine 82 = .ok (.iastore, 1) := by decide +kernel
theorem dX11_orderLine_83 : decode cX11_orderLine 83 = .ok (.aload_n 0, 1) := by decide +kernel
theorem dX11_orderLine_84 : decode cX11_orderLine 84 = .ok (.getfield 126, 3) := by decide +kernel
theorem dX11_orderLine_87 : decode cX11_orderLine 87 = .ok (.iload 4, 2) := by decide +kernel
theorem dX11_orderLine_89 : decode cX11_orderLine 89 = .ok (.iconst 4, 1) := by decide +kernel
theorem dX11_orderLine_90 : decode cX11_orderLine 90 = .ok (.iadd, 1) := by decide +kernel
theorem dX11_orderLine_91 : decode cX11_orderLine 91 = .ok (.iload 5, 2) := by decide +kernel
theorem dX11_orderLine_93 : decode cX11_orderLine 93 = .ok (.iadd, 1) := by decide +kernel
theorem dX11_orderLine_94 : decode cX11_orderLine 94 = .ok (.iconst (-1), 1) := by decide +kernel
theorem dX11_orderLine_95 : decode cX11_orderLine 95 = .ok (.iastore, 1) := by decide +kernel
theorem dX11_orderLine_96 : decode cX11_orderLine 96 = .ok (.iinc 5 1, 3) := by decide +kernel
theorem dX11_orderLine_99 : decode cX11_orderLine 99 = .ok (.goto (-35), 3) := by decide +kernel
theorem dX11_orderLine_102 : decode cX11_orderLine 102 = .ok (.iconst 0, 1) := by decide +kernel
theorem dX11_orderLine_103 : decode cX11_orderLine 103 = .ok (.istore 5, 2) := by decide +kernel
theorem dX11_orderLine_105 : decode cX11_orderLine 105 = .ok (.iload 5, 2) := by decide +kernel
theorem dX11_orderLine_107 : decode cX11_orderLine 107 = .ok (.iload_n 3, 1) := by decide +kernel
theorem dX11_orderLine_108 : decode cX11_orderLine 108 = .ok (.invokestatic 132, 3) := by decide +kernel
theorem dX11_orderLine_111 : decode cX11_orderLine 111 = .ok (.if_icmp .ge 25, 3) := by decide +kernel
theorem dX11_orderLine_114 : decode cX11_orderLine 114 = .ok (.aload_n 0, 1) := by decide +kernel
theorem dX11_orderLine_115 : decode cX11_orderLine 115 = .ok (.getfield 31, 3) := by decide +kernel
theorem dX11_orderLine_118 : decode cX11_orderLine 118 = .ok (.iconst (-1), 1) := by decide +kernel
theorem dX11_orderLine_119 : decode cX11_orderLine 119 = .ok (.if_icmp .ne 17, 3) := by decide +kernel
theorem dX11_orderLine_122 : decode cX11_orderLine 122 = .ok (.aload_n 0, 1) := by decide +kernel
theorem dX11_orderLine_123 : decode cX11_orderLine 123 = .ok (.iload 4, 2) := by decide +kernel
theorem dX11_orderLine_125 : decode cX11_orderLine 125 = .ok (.iload 5, 2) := by decide +kernel
theorem dX11_orderLine_127 : decode cX11_orderLine 127 = .ok (.invokevirtual 135, 3) := by decide +kernel
theorem dX11_orderLine_130 : decode cX11_orderLine 130 = .ok (.iinc 5 1, 3) := by decide +kernel
theorem dX11_orderLine_133 : decode cX11_orderLine 133 = .ok (.goto (-28), 3) := by decide +kernel
theorem dX11_orderLine_136 : decode cX11_orderLine 136 = .ok (.aload_n 0, 1) := by decide +kernel
theorem dX11_orderLine_137 : decode cX11_orderLine 137 = .ok (.dup, 1) := by decide +kernel
theorem dX11_orderLine_138 : decode cX11_orderLine 138 = .ok (.getfield 123, 3) := by decide +kernel
theorem dX11_orderLine_141 : decode cX11_orderLine 141 = .ok (.iconst 1, 1) := by decide +kernel
theorem dX11_orderLine_142 : decode cX11_orderLine 142 = .ok (.iadd, 1) := by decide +kernel
theorem dX11_orderLine_143 : decode cX11_orderLine 143 = .ok (.putfield 123, 3) := by decide +kernel
theorem dX11_orderLine_146 : decode cX11_orderLine 146 = .ok (.return_, 1) := by decide +kernel
theorem dX11_readsOrders_0 : decode cX11_readsOrders 0 = .ok (.aload_n 0, 1) := by decide +kernel
theorem dX11_readsOrders_1 : decode cX11_readsOrders 1 = .ok (.iconst 0, 1) := by decide +kernel
theorem dX11_readsOrders_2 : decode cX11_readsOrders 2 = .ok (.putfield 24, 3) := by decide +kernel
theorem dX11_readsOrders_5 : decode cX11_readsOrders 5 = .ok (.aload_n 0, 1) := by decide +kernel
theorem dX11_readsOrders_6 : decode cX11_readsOrders 6 = .ok (.iconst (-1), 1) := by decide +kernel
theorem dX11_readsOrders_7 : decode cX11_readsOrders 7 = .ok (.putfield 31, 3) := by decide +kernel
theorem dX11_readsOrders_10 : decode cX11_readsOrders 10 = .ok (.aload_n 0, 1) := by decide +kernel
theorem dX11_readsOrders_11 : decode cX11_readsOrders 11 = .ok (.iconst 0, 1) := by decide +kernel
theorem dX11_readsOrders_12 : decode cX11_readsOrders 12 = .ok (.putfield 123, 3) := by decide +kernel
theorem dX11_readsOrders_15 : decode cX11_readsOrders 15 = .ok (.aload_n 0, 1) := by decide +kernel
theorem dX11_readsOrders_16 : decode cX11_readsOrders 16 = .ok (.invokevirtual 139, 3) := by decide +kernel
theorem dX11_readsOrders_19 : decode cX11_readsOrders 19 = .ok (.aload_n 0, 1) := by decide +kernel
theorem dX11_readsOrders_20 : decode cX11_readsOrders 20 = .ok (.getfield 31, 3) := by decide +kernel
theorem dX11_readsOrders_23 : decode cX11_readsOrders 23 = .ok (.iconst (-1), 1) := by decide +kernel
theorem dX11_readsOrders_24 : decode cX11_readsOrders 24 = .ok (.if_icmp .ne 29, 3) := by decide +kernel
theorem dX11_readsOrders_27 : decode cX11_readsOrders 27 = .ok (.aload_n 0, 1) := by decide +kernel
theorem dX11_readsOrders_28 : decode cX11_readsOrders 28 = .ok (.invokevirtual 58, 3) := by decide +kernel
theorem dX11_readsOrders_31 : decode cX11_readsOrders 31 = .ok (.bipush 59, 2) := by decide +kernel
theorem dX11_readsOrders_33 : decode cX11_readsOrders 33 = .ok (.if_icmp .ne 20, 3) := by decide +kernel
theorem dX11_readsOrders_36 : decode cX11_readsOrders 36 = .ok (.aload_n 0, 1) := by decide +kernel
theorem dX11_readsOrders_37 : decode cX11_readsOrders 37 = .ok (.dup, 1) := by decide +kernel
theorem dX11_readsOrders_38 : decode cX11_readsOrders 38 = .ok (.getfield 24, 3) := by decide +kernel
theorem dX11_readsOrders_41 : decode cX11_readsOrders 41 = .ok (.iconst 1, 1) := by decide +kernel
theorem dX11_readsOrders_42 : decode cX11_readsOrders 42 = .ok (.iadd, 1) := by decide +kernel
theorem dX11_readsOrders_43 : decode cX11_readsOrders 43 = .ok (.putfield 24, 3) := by decide +kernel
theorem dX11_readsOrders_46 : decode cX11_readsOrders 46 = .ok (.aload_n 0, 1) := by decide +kernel
theorem dX11_readsOrders_47 : decode cX11_readsOrders 47 = .ok (.invokevirtual 139, 3) := by decide +kernel
theorem dX11_readsOrders_50 : decode cX11_readsOrders 50 = .ok (.goto (-31), 3) := by decide +kernel
theorem dX11_readsOrders_53 : decode cX11_readsOrders 53 = .ok (.aload_n 0, 1) := by decide +kernel
theorem dX11_readsOrders_54 : decode cX11_readsOrders 54 = .ok (.getfield 31, 3) := by decide +kernel
theorem dX11_readsOrders_57 : decode cX11_readsOrders 57 = .ok (.iconst (-1), 1) := by decide +kernel
theorem dX11_readsOrders_58 : decode cX11_readsOrders 58 = .ok (.if_icmp .ne 19, 3) := by decide +kernel
theorem dX11_readsOrders_61 : decode cX11_readsOrders 61 = .ok (.aload_n 0, 1) := by decide +kernel
theorem dX11_readsOrders_62 : decode cX11_readsOrders 62 = .ok (.invokevirtual 58, 3) := by decide +kernel
theorem dX11_readsOrders_65 : decode cX11_readsOrders 65 = .ok (.iconst (-1), 1) := by decide +kernel
theorem dX11_readsOrders_66 : decode cX11_readsOrders 66 = .ok (.if_icmp .eq 11, 3) := by decide +kernel
theorem dX11_readsOrders_69 : decode cX11_readsOrders 69 = .ok (.aload_n 0, 1) := by decide +kernel
theorem dX11_readsOrders_70 : decode cX11_readsOrders 70 = .ok (.aload_n 0, 1) := by decide +kernel
theorem dX11_readsOrders_71 : decode cX11_readsOrders 71 = .ok (.getfield 24, 3) := by decide +kernel
theorem dX11_readsOrders_74 : decode cX11_readsOrders 74 = .ok (.invokevirtual 69, 3) := by decide +kernel
theorem dX11_readsOrders_77 : decode cX11_readsOrders 77 = .ok (.aload_n 0, 1) := by decide +kernel
theorem dX11_readsOrders_78 : decode cX11_readsOrders 78 = .ok (.getfield 31, 3) := by decide +kernel
theorem dX11_readsOrders_81 : decode cX11_readsOrders 81 = .ok (.ireturn, 1) := by decide +kernel
theorem dX11_terms_0 : decode cX11_terms 0 = .ok (.lconst 0, 1) := by decide +kernel
theorem dX11_terms_1 : decode cX11_terms 1 = .ok (.lstore_n 2, 1) := by decide +kernel
theorem dX11_terms_2 : decode cX11_terms 2 = .ok (.iconst 0, 1) := by decide +kernel
theorem dX11_terms_3 : decode cX11_terms 3 = .ok (.istore 4, 2) := by decide +kernel
theorem dX11_terms_5 : decode cX11_terms 5 = .ok (.iconst 2, 1) := by decide +kernel
theorem dX11_terms_6 : decode cX11_terms 6 = .ok (.iload 4, 2) := by decide +kernel
theorem dX11_terms_8 : decode cX11_terms 8 = .ok (.imul, 1) := by decide +kernel
theorem dX11_terms_9 : decode cX11_terms 9 = .ok (.iconst 1, 1) := by decide +kernel
theorem dX11_terms_10 : decode cX11_terms 10 = .ok (.iadd, 1) := by decide +kernel
theorem dX11_terms_11 : decode cX11_terms 11 = .ok (.iload_n 0, 1) := by decide +kernel
theorem dX11_terms_12 : decode cX11_terms 12 = .ok (.imul, 1) := by decide +kernel
theorem dX11_terms_13 : decode cX11_terms 13 = .ok (.bipush 56, 2) := by decide +kernel
theorem dX11_terms_15 : decode cX11_terms 15 = .ok (.if_icmp .gt 54, 3) := by decide +kernel
theorem dX11_terms_18 : decode cX11_terms 18 = .ok (.lconst 1, 1) := by decide +kernel
theorem dX11_terms_19 : decode cX11_terms 19 = .ok (.bipush 56, 2) := by decide +kernel
theorem dX11_terms_21 : decode cX11_terms 21 = .ok (.iconst 2, 1) := by decide +kernel
theorem dX11_terms_22 : decode cX11_terms 22 = .ok (.iload 4, 2) := by decide +kernel
theorem dX11_terms_24 : decode cX11_terms 24 = .ok (.imul, 1) := by decide +kernel
theorem dX11_terms_25 : decode cX11_terms 25 = .ok (.iconst 1, 1) := by decide +kernel
theorem dX11_terms_26 : decode cX11_terms 26 = .ok (.iadd, 1) := by decide +kernel
theorem dX11_terms_27 : decode cX11_terms 27 = .ok (.iload_n 0, 1) := by decide +kernel
theorem dX11_terms_28 : decode cX11_terms 28 = .ok (.imul, 1) := by decide +kernel
theorem dX11_terms_29 : decode cX11_terms 29 = .ok (.isub, 1) := by decide +kernel
theorem dX11_terms_30 : decode cX11_terms 30 = .ok (.lshl, 1) := by decide +kernel
theorem dX11_terms_31 : decode cX11_terms 31 = .ok (.iconst 2, 1) := by decide +kernel
theorem dX11_terms_32 : decode cX11_terms 32 = .ok (.iload 4, 2) := by decide +kernel
theorem dX11_terms_34 : decode cX11_terms 34 = .ok (.imul, 1) := by decide +kernel
theorem dX11_terms_35 : decode cX11_terms 35 = .ok (.iconst 1, 1) := by decide +kernel
theorem dX11_terms_36 : decode cX11_terms 36 = .ok (.iadd, 1) := by decide +kernel
theorem dX11_terms_37 : decode cX11_terms 37 = .ok (.i2l, 1) := by decide +kernel
theorem dX11_terms_38 : decode cX11_terms 38 = .ok (.ldiv, 1) := by decide +kernel
theorem dX11_terms_39 : decode cX11_terms 39 = .ok (.lstore 5, 2) := by decide +kernel
theorem dX11_terms_41 : decode cX11_terms 41 = .ok (.lload_n 2, 1) := by decide +kernel
theorem dX11_terms_42 : decode cX11_terms 42 = .ok (.iload_n 1, 1) := by decide +kernel
theorem dX11_terms_43 : decode cX11_terms 43 = .ok (.ifCond .ne 10, 3) := by decide +kernel
theorem dX11_terms_46 : decode cX11_terms 46 = .ok (.iload 4, 2) := by decide +kernel
theorem dX11_terms_48 : decode cX11_terms 48 = .ok (.iconst 2, 1) := by decide +kernel
theorem dX11_terms_49 : decode cX11_terms 49 = .ok (.irem, 1) := by decide +kernel
theorem dX11_terms_50 : decode cX11_terms 50 = .ok (.ifCond .ne 8, 3) := by decide +kernel
theorem dX11_terms_53 : decode cX11_terms 53 = .ok (.lload 5, 2) := by decide +kernel
theorem dX11_terms_55 : decode cX11_terms 55 = .ok (.goto 6, 3) := by decide +kernel
theorem dX11_terms_58 : decode cX11_terms 58 = .ok (.lload 5, 2) := by decide +kernel
theorem dX11_terms_60 : decode cX11_terms 60 = .ok (.lneg, 1) := by decide +kernel
theorem dX11_terms_61 : decode cX11_terms 61 = .ok (.ladd, 1) := by decide +kernel
theorem dX11_terms_62 : decode cX11_terms 62 = .ok (.lstore_n 2, 1) := by decide +kernel
theorem dX11_terms_63 : decode cX11_terms 63 = .ok (.iinc 4 1, 3) := by decide +kernel
theorem dX11_terms_66 : decode cX11_terms 66 = .ok (.goto (-61), 3) := by decide +kernel
theorem dX11_terms_69 : decode cX11_terms 69 = .ok (.lload_n 2, 1) := by decide +kernel
theorem dX11_terms_70 : decode cX11_terms 70 = .ok (.lreturn, 1) := by decide +kernel
theorem dX11_fifth_0 : decode cX11_fifth 0 = .ok (.lconst 0, 1) := by decide +kernel
theorem dX11_fifth_1 : decode cX11_fifth 1 = .ok (.lstore_n 3, 1) := by decide +kernel
theorem dX11_fifth_2 : decode cX11_fifth 2 = .ok (.ldc2_w 142, 3) := by decide +kernel
theorem dX11_fifth_5 : decode cX11_fifth 5 = .ok (.lload_n 0, 1) := by decide +kernel
theorem dX11_fifth_6 : decode cX11_fifth 6 = .ok (.ldiv, 1) := by decide +kernel
theorem dX11_fifth_7 : decode cX11_fifth 7 = .ok (.lstore 5, 2) := by decide +kernel
theorem dX11_fifth_9 : decode cX11_fifth 9 = .ok (.iconst 0, 1) := by decide +kernel
theorem dX11_fifth_10 : decode cX11_fifth 10 = .ok (.istore 7, 2) := by decide +kernel
theorem dX11_fifth_12 : decode cX11_fifth 12 = .ok (.lload 5, 2) := by decide +kernel
theorem dX11_fifth_14 : decode cX11_fifth 14 = .ok (.lconst 0, 1) := by decide +kernel
theorem dX11_fifth_15 : decode cX11_fifth 15 = .ok (.lcmp, 1) := by decide +kernel
theorem dX11_fifth_16 : decode cX11_fifth 16 = .ok (.ifCond .le 51, 3) := by decide +kernel
theorem dX11_fifth_19 : decode cX11_fifth 19 = .ok (.lload 5, 2) := by decide +kernel
theorem dX11_fifth_21 : decode cX11_fifth 21 = .ok (.iconst 2, 1) := by decide +kernel
theorem dX11_fifth_22 : decode cX11_fifth 22 = .ok (.iload 7, 2) := by decide +kernel
theorem dX11_fifth_24 : decode cX11_fifth 24 = .ok (.imul, 1) := by decide +kernel
theorem dX11_fifth_25 : decode cX11_fifth 25 = .ok (.iconst 1, 1) := by decide +kernel
theorem dX11_fifth_26 : decode cX11_fifth 26 = .ok (.iadd, 1) := by decide +kernel
theorem dX11_fifth_27 : decode cX11_fifth 27 = .ok (.i2l, 1) := by decide +kernel
theorem dX11_fifth_28 : decode cX11_fifth 28 = .ok (.ldiv, 1) := by decide +kernel
theorem dX11_fifth_29 : decode cX11_fifth 29 = .ok (.lstore 8, 2) := by decide +kernel
theorem dX11_fifth_31 : decode cX11_fifth 31 = .ok (.lload_n 3, 1) := by decide +kernel
theorem dX11_fifth_32 : decode cX11_fifth 32 = .ok (.iload_n 2, 1) := by decide +kernel
theorem dX11_fifth_33 : decode cX11_fifth 33 = .ok (.ifCond .ne 10, 3) := by decide +kernel
theorem dX11_fifth_36 : decode cX11_fifth 36 = .ok (.iload 7, 2) := by decide +kernel
theorem dX11_fifth_38 : decode cX11_fifth 38 = .ok (.iconst 2, 1) := by decide +kernel
theorem dX11_fifth_39 : decode cX11_fifth 39 = .ok (.irem, 1) := by decide +kernel
theorem dX11_fifth_40 : decode cX11_fifth 40 = .ok (.ifCond .ne 8, 3) := by decide +kernel
theorem dX11_fifth_43 : decode cX11_fifth 43 = .ok (.lload 8, 2) := by decide +kernel
theorem dX11_fifth_45 : decode cX11_fifth 45 = .ok (.goto 6, 3) := by decide +kernel
theorem dX11_fifth_48 : decode cX11_fifth 48 = .ok (.lload 8, 2) := by decide +kernel
theorem dX11_fifth_50 : decode cX11_fifth 50 = .ok (.lneg, 1) := by decide +kernel
theorem dX11_fifth_51 : decode cX11_fifth 51 = .ok (.ladd, 1) := by decide +kernel
theorem dX11_fifth_52 : decode cX11_fifth 52 = .ok (.lstore_n 3, 1) := by decide +kernel
theorem dX11_fifth_53 : decode cX11_fifth 53 = .ok (.lload 5, 2) := by decide +kernel
theorem dX11_fifth_55 : decode cX11_fifth 55 = .ok (.lload_n 0, 1) := by decide +kernel
theorem dX11_fifth_56 : decode cX11_fifth 56 = .ok (.lload_n 0, 1) := by decide +kernel
theorem dX11_fifth_57 : decode cX11_fifth 57 = .ok (.lmul, 1) := by decide +kernel
theorem dX11_fifth_58 : decode cX11_fifth 58 = .ok (.ldiv, 1) := by decide +kernel
theorem dX11_fifth_59 : decode cX11_fifth 59 = .ok (.lstore 5, 2) := by decide +kernel
theorem dX11_fifth_61 : decode cX11_fifth 61 = .ok (.iinc 7 1, 3) := by decide +kernel
theorem dX11_fifth_64 : decode cX11_fifth 64 = .ok (.goto (-52), 3) := by decide +kernel
theorem dX11_fifth_67 : decode cX11_fifth 67 = .ok (.lload_n 3, 1) := by decide +kernel
theorem dX11_fifth_68 : decode cX11_fifth 68 = .ok (.lreturn, 1) := by decide +kernel
theorem dX11_eighth_0 : decode cX11_eighth 0 = .ok (.ldc2_w 144, 3) := by decide +kernel
theorem dX11_eighth_3 : decode cX11_eighth 3 = .ok (.ldc2_w 146, 3) := by decide +kernel
theorem dX11_eighth_6 : decode cX11_eighth 6 = .ok (.iconst 0, 1) := by decide +kernel
theorem dX11_eighth_7 : decode cX11_eighth 7 = .ok (.invokestatic 148, 3) := by decide +kernel
theorem dX11_eighth_10 : decode cX11_eighth 10 = .ok (.lmul, 1) := by decide +kernel
theorem dX11_eighth_11 : decode cX11_eighth 11 = .ok (.ldc2_w 152, 3) := by decide +kernel
theorem dX11_eighth_14 : decode cX11_eighth 14 = .ok (.iconst 0, 1) := by decide +kernel
theorem dX11_eighth_15 : decode cX11_eighth 15 = .ok (.invokestatic 148, 3) := by decide +kernel
theorem dX11_eighth_18 : decode cX11_eighth 18 = .ok (.lsub, 1) := by decide +kernel
theorem dX11_eighth_19 : decode cX11_eighth 19 = .ok (.lreturn, 1) := by decide +kernel
theorem dX11_by_0 : decode cX11_by 0 = .ok (.lload_n 0, 1) := by decide +kernel
theorem dX11_by_1 : decode cX11_by 1 = .ok (.lconst 1, 1) := by decide +kernel
theorem dX11_by_2 : decode cX11_by 2 = .ok (.bipush 55, 2) := by decide +kernel
theorem dX11_by_4 : decode cX11_by 4 = .ok (.iload_n 2, 1) := by decide +kernel
theorem dX11_by_5 : decode cX11_by 5 = .ok (.isub, 1) := by decide +kernel
theorem dX11_by_6 : decode cX11_by 6 = .ok (.lshl, 1) := by decide +kernel
theorem dX11_by_7 : decode cX11_by 7 = .ok (.ladd, 1) := by decide +kernel
theorem dX11_by_8 : decode cX11_by 8 = .ok (.bipush 56, 2) := by decide +kernel
theorem dX11_by_10 : decode cX11_by 10 = .ok (.iload_n 2, 1) := by decide +kernel
theorem dX11_by_11 : decode cX11_by 11 = .ok (.isub, 1) := by decide +kernel
theorem dX11_by_12 : decode cX11_by 12 = .ok (.lshr, 1) := by decide +kernel
theorem dX11_by_13 : decode cX11_by 13 = .ok (.lreturn, 1) := by decide +kernel
theorem dX11_laysShifts_0 : decode cX11_laysShifts 0 = .ok (.iconst 1, 1) := by decide +kernel
theorem dX11_laysShifts_1 : decode cX11_laysShifts 1 = .ok (.istore_n 1, 1) := by decide +kernel
theorem dX11_laysShifts_2 : decode cX11_laysShifts 2 = .ok (.iconst 0, 1) := by decide +kernel
theorem dX11_laysShifts_3 : decode cX11_laysShifts 3 = .ok (.istore_n 2, 1) := by decide +kernel
theorem dX11_laysShifts_4 : decode cX11_laysShifts 4 = .ok (.iconst 0, 1) := by decide +kernel
theorem dX11_laysShifts_5 : decode cX11_laysShifts 5 = .ok (.istore_n 3, 1) := by decide +kernel
theorem dX11_laysShifts_6 : decode cX11_laysShifts 6 = .ok (.iload_n 3, 1) := by decide +kernel
theorem dX11_laysShifts_7 : decode cX11_laysShifts 7 = .ok (.bipush 24, 2) := by decide +kernel
theorem dX11_laysShifts_9 : decode cX11_laysShifts 9 = .ok (.if_icmp .ge 76, 3) := by decide +kernel
theorem dX11_laysShifts_12 : decode cX11_laysShifts 12 = .ok (.aload_n 0, 1) := by decide +kernel
theorem dX11_laysShifts_13 : decode cX11_laysShifts 13 = .ok (.getfield 154, 3) := by decide +kernel
theorem dX11_laysShifts_16 : decode cX11_laysShifts 16 = .ok (.iconst 0, 1) := by decide +kernel
theorem dX11_laysShifts_17 : decode cX11_laysShifts 17 = .ok (.iload_n 3, 1) := by decide +kernel
theorem dX11_laysShifts_18 : decode cX11_laysShifts 18 = .ok (.iadd, 1) := by decide +kernel
theorem dX11_laysShifts_19 : decode cX11_laysShifts 19 = .ok (.iload_n 3, 1) := by decide +kernel
theorem dX11_laysShifts_20 : decode cX11_laysShifts 20 = .ok (.iastore, 1) := by decide +kernel
theorem dX11_laysShifts_21 : decode cX11_laysShifts 21 = .ok (.aload_n 0, 1) := by decide +kernel
theorem dX11_laysShifts_22 : decode cX11_laysShifts 22 = .ok (.getfield 154, 3) := by decide +kernel
theorem dX11_laysShifts_25 : decode cX11_laysShifts 25 = .ok (.bipush 24, 2) := by decide +kernel
theorem dX11_laysShifts_27 : decode cX11_laysShifts 27 = .ok (.iload_n 3, 1) := by decide +kernel
theorem dX11_laysShifts_28 : decode cX11_laysShifts 28 = .ok (.iadd, 1) := by decide +kernel
theorem dX11_laysShifts_29 : decode cX11_laysShifts 29 = .ok (.iload_n 3, 1) := by decide +kernel
theorem dX11_laysShifts_30 : decode cX11_laysShifts 30 = .ok (.iastore, 1) := by decide +kernel
theorem dX11_laysShifts_31 : decode cX11_laysShifts 31 = .ok (.aload_n 0, 1) := by decide +kernel
theorem dX11_laysShifts_32 : decode cX11_laysShifts 32 = .ok (.getfield 154, 3) := by decide +kernel
theorem dX11_laysShifts_35 : decode cX11_laysShifts 35 = .ok (.bipush 48, 2) := by decide +kernel
theorem dX11_laysShifts_37 : decode cX11_laysShifts 37 = .ok (.iload_n 3, 1) := by decide +kernel
theorem dX11_laysShifts_38 : decode cX11_laysShifts 38 = .ok (.iadd, 1) := by decide +kernel
theorem dX11_laysShifts_39 : decode cX11_laysShifts 39 = .ok (.iload_n 1, 1) := by decide +kernel
theorem dX11_laysShifts_40 : decode cX11_laysShifts 40 = .ok (.iastore, 1) := by decide +kernel
theorem dX11_laysShifts_41 : decode cX11_laysShifts 41 = .ok (.iload_n 1, 1) := by decide +kernel
theorem dX11_laysShifts_42 : decode cX11_laysShifts 42 = .ok (.iconst 4, 1) := by decide +kernel
theorem dX11_laysShifts_43 : decode cX11_laysShifts 43 = .ok (.if_icmp .eq 9, 3) := by decide +kernel
theorem dX11_laysShifts_46 : decode cX11_laysShifts 46 = .ok (.iload_n 1, 1) := by decide +kernel
theorem dX11_laysShifts_47 : decode cX11_laysShifts 47 = .ok (.bipush 13, 2) := by decide +kernel
theorem dX11_laysShifts_49 : decode cX11_laysShifts 49 = .ok (.if_icmp .ne 11, 3) := by decide +kernel
theorem dX11_laysShifts_52 : decode cX11_laysShifts 52 = .ok (.iload_n 2, 1) := by decide +kernel
theorem dX11_laysShifts_53 : decode cX11_laysShifts 53 = .ok (.ifCond .ne 7, 3) := by decide +kernel
theorem dX11_laysShifts_56 : decode cX11_laysShifts 56 = .ok (.iconst 1, 1) := by decide +kernel
theorem dX11_laysShifts_57 : decode cX11_laysShifts 57 = .ok (.goto 4, 3) := by decide +kernel
theorem dX11_laysShifts_60 : decode cX11_laysShifts 60 = .ok (.iconst 0, 1) := by decide +kernel
theorem dX11_laysShifts_61 : decode cX11_laysShifts 61 = .ok (.istore 4, 2) := by decide +kernel
theorem dX11_laysShifts_63 : decode cX11_laysShifts 63 = .ok (.iload 4, 2) := by decide +kernel
theorem dX11_laysShifts_65 : decode cX11_laysShifts 65 = .ok (.istore_n 2, 1) := by decide +kernel
theorem dX11_laysShifts_66 : decode cX11_laysShifts 66 = .ok (.iload_n 1, 1) := by decide +kernel
theorem dX11_laysShifts_67 : decode cX11_laysShifts 67 = .ok (.iload 4, 2) := by decide +kernel
theorem dX11_laysShifts_69 : decode cX11_laysShifts 69 = .ok (.ifCond .eq 7, 3) := by decide +kernel
theorem dX11_laysShifts_72 : decode cX11_laysShifts 72 = .ok (.iconst 0, 1) := by decide +kernel
theorem dX11_laysShifts_73 : decode cX11_laysShifts 73 = .ok (.goto 4, 3) := by decide +kernel
theorem dX11_laysShifts_76 : decode cX11_laysShifts 76 = .ok (.iconst 1, 1) := by decide +kernel
theorem dX11_laysShifts_77 : decode cX11_laysShifts 77 = .ok (.iadd, 1) := by decide +kernel
theorem dX11_laysShifts_78 : decode cX11_laysShifts 78 = .ok (.istore_n 1, 1) := by decide +kernel
theorem dX11_laysShifts_79 : decode cX11_laysShifts 79 = .ok (.iinc 3 1, 3) := by decide +kernel
theorem dX11_laysShifts_82 : decode cX11_laysShifts 82 = .ok (.goto (-76), 3) := by decide +kernel
theorem dX11_laysShifts_85 : decode cX11_laysShifts 85 = .ok (.return_, 1) := by decide +kernel
theorem dX11_angleOf_0 : decode cX11_angleOf 0 = .ok (.iload_n 0, 1) := by decide +kernel
theorem dX11_angleOf_1 : decode cX11_angleOf 1 = .ok (.iconst 1, 1) := by decide +kernel
theorem dX11_angleOf_2 : decode cX11_angleOf 2 = .ok (.if_icmp .ne 18, 3) := by decide +kernel
theorem dX11_angleOf_5 : decode cX11_angleOf 5 = .ok (.iload_n 1, 1) := by decide +kernel
theorem dX11_angleOf_6 : decode cX11_angleOf 6 = .ok (.iload_n 2, 1) := by decide +kernel
theorem dX11_angleOf_7 : decode cX11_angleOf 7 = .ok (.if_icmp .gt 11, 3) := by decide +kernel
theorem dX11_angleOf_10 : decode cX11_angleOf 10 = .ok (.lconst 1, 1) := by decide +kernel
theorem dX11_angleOf_11 : decode cX11_angleOf 11 = .ok (.iload_n 2, 1) := by decide +kernel
theorem dX11_angleOf_12 : decode cX11_angleOf 12 = .ok (.iload_n 1, 1) := by decide +kernel
theorem dX11_angleOf_13 : decode cX11_angleOf 13 = .ok (.isub, 1) := by decide +kernel
theorem dX11_angleOf_14 : decode cX11_angleOf 14 = .ok (.lshl, 1) := by decide +kernel
theorem dX11_angleOf_15 : decode cX11_angleOf 15 = .ok (.goto 4, 3) := by decide +kernel
theorem dX11_angleOf_18 : decode cX11_angleOf 18 = .ok (.lconst 0, 1) := by decide +kernel
theorem dX11_angleOf_19 : decode cX11_angleOf 19 = .ok (.lreturn, 1) := by decide +kernel
theorem dX11_angleOf_20 : decode cX11_angleOf 20 = .ok (.iload_n 0, 1) := by decide +kernel
theorem dX11_angleOf_21 : decode cX11_angleOf 21 = .ok (.iconst 2, 1) := by decide +kernel
theorem dX11_angleOf_22 : decode cX11_angleOf 22 = .ok (.if_icmp .ne 11, 3) := by decide +kernel
theorem dX11_angleOf_25 : decode cX11_angleOf 25 = .ok (.iload_n 1, 1) := by decide +kernel
theorem dX11_angleOf_26 : decode cX11_angleOf 26 = .ok (.iconst 1, 1) := by decide +kernel
theorem dX11_angleOf_27 : decode cX11_angleOf 27 = .ok (.invokestatic 157, 3) := by decide +kernel
theorem dX11_angleOf_30 : decode cX11_angleOf 30 = .ok (.goto 18, 3) := by decide +kernel
theorem dX11_angleOf_33 : decode cX11_angleOf 33 = .ok (.iload_n 1, 1) := by decide +kernel
theorem dX11_angleOf_34 : decode cX11_angleOf 34 = .ok (.ifCond .ne 9, 3) := by decide +kernel
theorem dX11_angleOf_37 : decode cX11_angleOf 37 = .ok (.invokestatic 161, 3) := by decide +kernel
theorem dX11_angleOf_40 : decode cX11_angleOf 40 = .ok (.goto 8, 3) := by decide +kernel
theorem dX11_angleOf_43 : decode cX11_angleOf 43 = .ok (.iload_n 1, 1) := by decide +kernel
theorem dX11_angleOf_44 : decode cX11_angleOf 44 = .ok (.iconst 0, 1) := by decide +kernel
theorem dX11_angleOf_45 : decode cX11_angleOf 45 = .ok (.invokestatic 157, 3) := by decide +kernel
theorem dX11_angleOf_48 : decode cX11_angleOf 48 = .ok (.iload_n 2, 1) := by decide +kernel
theorem dX11_angleOf_49 : decode cX11_angleOf 49 = .ok (.invokestatic 165, 3) := by decide +kernel
theorem dX11_angleOf_52 : decode cX11_angleOf 52 = .ok (.lreturn, 1) := by decide +kernel
theorem dX11_row_0 : decode cX11_row 0 = .ok (.iconst 3, 1) := by decide +kernel
theorem dX11_row_1 : decode cX11_row 1 = .ok (.iload_n 1, 1) := by decide +kernel
theorem dX11_row_2 : decode cX11_row 2 = .ok (.imul, 1) := by decide +kernel
theorem dX11_row_3 : decode cX11_row 3 = .ok (.iload_n 2, 1) := by decide +kernel
theorem dX11_row_4 : decode cX11_row 4 = .ok (.iadd, 1) := by decide +kernel
theorem dX11_row_5 : decode cX11_row 5 = .ok (.ireturn, 1) := by decide +kernel
theorem dX11_laysGain_0 : decode cX11_laysGain 0 = .ok (.ldc2_w 169, 3) := by decide +kernel
theorem dX11_laysGain_3 : decode cX11_laysGain 3 = .ok (.lstore_n 3, 1) := by decide +kernel
theorem dX11_laysGain_4 : decode cX11_laysGain 4 = .ok (.iconst 0, 1) := by decide +kernel
theorem dX11_laysGain_5 : decode cX11_laysGain 5 = .ok (.istore 5, 2) := by decide +kernel
theorem dX11_laysGain_7 : decode cX11_laysGain 7 = .ok (.iload 5, 2) := by decide +kernel
theorem dX11_laysGain_9 : decode cX11_laysGain 9 = .ok (.aload_n 0, 1) := by decide +kernel
theorem dX11_laysGain_10 : decode cX11_laysGain 10 = .ok (.getfield 171, 3) := by decide +kernel
theorem dX11_laysGain_13 : decode cX11_laysGain 13 = .ok (.iload_n 1, 1) := by decide +kernel
theorem dX11_laysGain_14 : decode cX11_laysGain 14 = .ok (.iaload, 1) := by decide +kernel
theorem dX11_laysGain_15 : decode cX11_laysGain 15 = .ok (.if_icmp .ge 51, 3) := by decide +kernel
theorem dX11_laysGain_18 : decode cX11_laysGain 18 = .ok (.lload_n 3, 1) := by decide +kernel
theorem dX11_laysGain_19 : decode cX11_laysGain 19 = .ok (.iconst 2, 1) := by decide +kernel
theorem dX11_laysGain_20 : decode cX11_laysGain 20 = .ok (.aload_n 0, 1) := by decide +kernel
theorem dX11_laysGain_21 : decode cX11_laysGain 21 = .ok (.getfield 154, 3) := by decide +kernel
theorem dX11_laysGain_24 : decode cX11_laysGain 24 = .ok (.bipush 24, 2) := by decide +kernel
theorem dX11_laysGain_26 : decode cX11_laysGain 26 = .ok (.iload_n 2, 1) := by decide +kernel
theorem dX11_laysGain_27 : decode cX11_laysGain 27 = .ok (.imul, 1) := by decide +kernel
theorem dX11_laysGain_28 : decode cX11_laysGain 28 = .ok (.iload 5, 2) := by decide +kernel
theorem dX11_laysGain_30 : decode cX11_laysGain 30 = .ok (.iadd, 1) := by decide +kernel
theorem dX11_laysGain_31 : decode cX11_laysGain 31 = .ok (.iaload, 1) := by decide +kernel
theorem dX11_laysGain_32 : decode cX11_laysGain 32 = .ok (.imul, 1) := by decide +kernel
theorem dX11_laysGain_33 : decode cX11_laysGain 33 = .ok (.lshr, 1) := by decide +kernel
theorem dX11_laysGain_34 : decode cX11_laysGain 34 = .ok (.lstore 6, 2) := by decide +kernel
theorem dX11_laysGain_36 : decode cX11_laysGain 36 = .ok (.lload_n 3, 1) := by decide +kernel
theorem dX11_laysGain_37 : decode cX11_laysGain 37 = .ok (.iload_n 2, 1) := by decide +kernel
theorem dX11_laysGain_38 : decode cX11_laysGain 38 = .ok (.ifCond .ne 8, 3) := by decide +kernel
theorem dX11_laysGain_41 : decode cX11_laysGain 41 = .ok (.lload 6, 2) := by decide +kernel
theorem dX11_laysGain_43 : decode cX11_laysGain 43 = .ok (.goto 15, 3) := by decide +kernel
theorem dX11_laysGain_46 : decode cX11_laysGain 46 = .ok (.iload_n 2, 1) := by decide +kernel
theorem dX11_laysGain_47 : decode cX11_laysGain 47 = .ok (.iconst 2, 1) := by decide +kernel
theorem dX11_laysGain_48 : decode cX11_laysGain 48 = .ok (.if_icmp .ne 9, 3) := by decide +kernel
theorem dX11_laysGain_51 : decode cX11_laysGain 51 = .ok (.lload 6, 2) := by decide +kernel
theorem dX11_laysGain_53 : decode cX11_laysGain 53 = .ok (.lneg, 1) := by decide +kernel
theorem dX11_laysGain_54 : decode cX11_laysGain 54 = .ok (.goto 4, 3) := by decide +kernel
theorem dX11_laysGain_57 : decode cX11_laysGain 57 = .ok (.lconst 0, 1) := by decide +kernel
theorem dX11_laysGain_58 : decode cX11_laysGain 58 = .ok (.ladd, 1) := by decide +kernel
theorem dX11_laysGain_59 : decode cX11_laysGain 59 = .ok (.lstore_n 3, 1) := by decide +kernel
theorem dX11_laysGain_60 : decode cX11_laysGain 60 = .ok (.iinc 5 1, 3) := by decide +kernel
theorem dX11_laysGain_63 : decode cX11_laysGain 63 = .ok (.goto (-56), 3) := by decide +kernel
theorem dX11_laysGain_66 : decode cX11_laysGain 66 = .ok (.lload_n 3, 1) := by decide +kernel
theorem dX11_laysGain_67 : decode cX11_laysGain 67 = .ok (.bipush 54, 2) := by decide +kernel
theorem dX11_laysGain_69 : decode cX11_laysGain 69 = .ok (.iconst 2, 1) := by decide +kernel
theorem dX11_laysGain_70 : decode cX11_laysGain 70 = .ok (.aload_n 0, 1) := by decide +kernel
theorem dX11_laysGain_71 : decode cX11_laysGain 71 = .ok (.getfield 173, 3) := by decide +kernel
theorem dX11_laysGain_74 : decode cX11_laysGain 74 = .ok (.iload_n 1, 1) := by decide +kernel
theorem dX11_laysGain_75 : decode cX11_laysGain 75 = .ok (.iaload, 1) := by decide +kernel
theorem dX11_laysGain_76 : decode cX11_laysGain 76 = .ok (.imul, 1) := by decide +kernel
theorem dX11_laysGain_77 : decode cX11_laysGain 77 = .ok (.isub, 1) := by decide +kernel
theorem dX11_laysGain_78 : decode cX11_laysGain 78 = .ok (.lshr, 1) := by decide +kernel
theorem dX11_laysGain_79 : decode cX11_laysGain 79 = .ok (.lstore_n 3, 1) := by decide +kernel
theorem dX11_laysGain_80 : decode cX11_laysGain 80 = .ok (.lconst 1, 1) := by decide +kernel
theorem dX11_laysGain_81 : decode cX11_laysGain 81 = .ok (.lstore 5, 2) := by decide +kernel
theorem dX11_laysGain_83 : decode cX11_laysGain 83 = .ok (.ldc2_w 176, 3) := by decide +kernel
theorem dX11_laysGain_86 : decode cX11_laysGain 86 = .ok (.lstore 7, 2) := by decide +kernel
theorem dX11_laysGain_88 : decode cX11_laysGain 88 = .ok (.lload 7, 2) := by decide +kernel
theorem dX11_laysGain_90 : decode cX11_laysGain 90 = .ok (.lload 5, 2) := by decide +kernel
theorem dX11_laysGain_92 : decode cX11_laysGain 92 = .ok (.lsub, 1) := by decide +kernel
theorem dX11_laysGain_93 : decode cX11_laysGain 93 = .ok (.lconst 1, 1) := by decide +kernel
theorem dX11_laysGain_94 : decode cX11_laysGain 94 = .ok (.lcmp, 1) := by decide +kernel
theorem dX11_laysGain_95 : decode cX11_laysGain 95 = .ok (.ifCond .le 38, 3) := by decide +kernel
theorem dX11_laysGain_98 : decode cX11_laysGain 98 = .ok (.lload 5, 2) := by decide +kernel
theorem dX11_laysGain_100 : decode cX11_laysGain 100 = .ok (.lload 7, 2) := by decide +kernel
theorem dX11_laysGain_102 : decode cX11_laysGain 102 = .ok (.ladd, 1) := by decide +kernel
theorem dX11_laysGain_103 : decode cX11_laysGain 103 = .ok (.ldc2_w 178, 3) := by decide +kernel
theorem dX11_laysGain_106 : decode cX11_laysGain 106 = .ok (.ldiv, 1) := by decide +kernel
theorem dX11_laysGain_107 : decode cX11_laysGain 107 = .ok (.lstore 9, 2) := by decide +kernel
theorem dX11_laysGain_109 : decode cX11_laysGain 109 = .ok (.lload 9, 2) := by decide +kernel
theorem dX11_laysGain_111 : decode cX11_laysGain 111 = .ok (.lload 9, 2) := by decide +kernel
theorem dX11_laysGain_113 : decode cX11_laysGain 113 = .ok (.lmul, 1) := by decide +kernel
theorem dX11_laysGain_114 : decode cX11_laysGain 114 = .ok (.lload_n 3, 1) := by decide +kernel
theorem dX11_laysGain_115 : decode cX11_laysGain 115 = .ok (.lcmp, 1) := by decide +kernel
theorem dX11_laysGain_116 : decode cX11_laysGain 116 = .ok (.ifCond .gt 10, 3) := by decide +kernel
theorem dX11_laysGain_119 : decode cX11_laysGain 119 = .ok (.lload 9, 2) := by decide +kernel
theorem dX11_laysGain_121 : decode cX11_laysGain 121 = .ok (.lstore 5, 2) := by decide +kernel
theorem dX11_laysGain_123 : decode cX11_laysGain 123 = .ok (.goto 7, 3) := by decide +kernel
theorem dX11_laysGain_126 : decode cX11_laysGain 126 = .ok (.lload 9, 2) := by decide +kernel
theorem dX11_laysGain_128 : decode cX11_laysGain 128 = .ok (.lstore 7, 2) := by decide +kernel
theorem dX11_laysGain_130 : decode cX11_laysGain 130 = .ok (.goto (-42), 3) := by decide +kernel
theorem dX11_laysGain_133 : decode cX11_laysGain 133 = .ok (.aload_n 0, 1) := by decide +kernel
theorem dX11_laysGain_134 : decode cX11_laysGain 134 = .ok (.iload_n 1, 1) := by decide +kernel
theorem dX11_laysGain_135 : decode cX11_laysGain 135 = .ok (.iload_n 2, 1) := by decide +kernel
theorem dX11_laysGain_136 : decode cX11_laysGain 136 = .ok (.invokevirtual 180, 3) := by decide +kernel
theorem dX11_laysGain_139 : decode cX11_laysGain 139 = .ok (.istore 9, 2) := by decide +kernel
theorem dX11_laysGain_141 : decode cX11_laysGain 141 = .ok (.aload_n 0, 1) := by decide +kernel
theorem dX11_laysGain_142 : decode cX11_laysGain 142 = .ok (.getfield 183, 3) := by decide +kernel
theorem dX11_laysGain_145 : decode cX11_laysGain 145 = .ok (.iload 9, 2) := by decide +kernel
theorem dX11_laysGain_147 : decode cX11_laysGain 147 = .ok (.lload 5, 2) := by decide +kernel
theorem dX11_laysGain_149 : decode cX11_laysGain 149 = .ok (.l2i, 1) := by decide +kernel
theorem dX11_laysGain_150 : decode cX11_laysGain 150 = .ok (.iastore, 1) := by decide +kernel
theorem dX11_laysGain_151 : decode cX11_laysGain 151 = .ok (.aload_n 0, 1) := by decide +kernel
theorem dX11_laysGain_152 : decode cX11_laysGain 152 = .ok (.getfield 186, 3) := by decide +kernel
theorem dX11_laysGain_155 : decode cX11_laysGain 155 = .ok (.iload 9, 2) := by decide +kernel
theorem dX11_laysGain_157 : decode cX11_laysGain 157 = .ok (.lconst 1, 1) := by decide +kernel
theorem dX11_laysGain_158 : decode cX11_laysGain 158 = .ok (.iconst 2, 1) := by decide +kernel
theorem dX11_laysGain_159 : decode cX11_laysGain 159 = .ok (.aload_n 0, 1) := by decide +kernel
theorem dX11_laysGain_160 : decode cX11_laysGain 160 = .ok (.getfield 173, 3) := by decide +kernel
theorem dX11_laysGain_163 : decode cX11_laysGain 163 = .ok (.iload_n 1, 1) := by decide +kernel
theorem dX11_laysGain_164 : decode cX11_laysGain 164 = .ok (.iaload, 1) := by decide +kernel
theorem dX11_laysGain_165 : decode cX11_laysGain 165 = .ok (.imul, 1) := by decide +kernel
theorem dX11_laysGain_166 : decode cX11_laysGain 166 = .ok (.lshl, 1) := by decide +kernel
theorem dX11_laysGain_167 : decode cX11_laysGain 167 = .ok (.lload 5, 2) := by decide +kernel
theorem dX11_laysGain_169 : decode cX11_laysGain 169 = .ok (.ldiv, 1) := by decide +kernel
theorem dX11_laysGain_170 : decode cX11_laysGain 170 = .ok (.l2i, 1) := by decide +kernel
theorem dX11_laysGain_171 : decode cX11_laysGain 171 = .ok (.iastore, 1) := by decide +kernel
theorem dX11_laysGain_172 : decode cX11_laysGain 172 = .ok (.aload_n 0, 1) := by decide +kernel
theorem dX11_laysGain_173 : decode cX11_laysGain 173 = .ok (.getfield 186, 3) := by decide +kernel
theorem dX11_laysGain_176 : decode cX11_laysGain 176 = .ok (.iload 9, 2) := by decide +kernel
theorem dX11_laysGain_178 : decode cX11_laysGain 178 = .ok (.iaload, 1) := by decide +kernel
theorem dX11_laysGain_179 : decode cX11_laysGain 179 = .ok (.i2l, 1) := by decide +kernel
theorem dX11_laysGain_180 : decode cX11_laysGain 180 = .ok (.lstore 10, 2) := by decide +kernel
theorem dX11_laysGain_182 : decode cX11_laysGain 182 = .ok (.iconst 0, 1) := by decide +kernel
theorem dX11_laysGain_183 : decode cX11_laysGain 183 = .ok (.istore 12, 2) := by decide +kernel
theorem dX11_laysGain_185 : decode cX11_laysGain 185 = .ok (.iload 12, 2) := by decide +kernel
theorem dX11_laysGain_187 : decode cX11_laysGain 187 = .ok (.bipush 32, 2) := by decide +kernel
theorem dX11_laysGain_189 : decode cX11_laysGain 189 = .ok (.if_icmp .ge 69, 3) := by decide +kernel
theorem dX11_laysGain_192 : decode cX11_laysGain 192 = .ok (.lload 10, 2) := by decide +kernel
theorem dX11_laysGain_194 : decode cX11_laysGain 194 = .ok (.ldc2_w 178, 3) := by decide +kernel
theorem dX11_laysGain_197 : decode cX11_laysGain 197 = .ok (.lrem, 1) := by decide +kernel
theorem dX11_laysGain_198 : decode cX11_laysGain 198 = .ok (.lconst 0, 1) := by decide +kernel
theorem dX11_laysGain_199 : decode cX11_laysGain 199 = .ok (.lcmp, 1) := by decide +kernel
theorem dX11_laysGain_200 : decode cX11_laysGain 200 = .ok (.ifCond .ne 7, 3) := by decide +kernel
