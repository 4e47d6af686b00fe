theorem dX1_init_0 : decode cX1_init 0 = .ok (.aload_n 0, 1) := by decide +kernel
theorem dX1_init_1 : decode cX1_init 1 = .ok (.invokespecial 3, 3) := by decide +kernel
theorem dX1_init_4 : decode cX1_init 4 = .ok (.aload_n 0, 1) := by decide +kernel
theorem dX1_init_5 : decode cX1_init 5 = .ok (.bipush 60, 2) := by decide +kernel
theorem dX1_init_7 : decode cX1_init 7 = .ok (.newarray .int, 2) := by decide +kernel
theorem dX1_init_9 : decode cX1_init 9 = .ok (.putfield 9, 3) := by decide +kernel
theorem dX1_init_12 : decode cX1_init 12 = .ok (.aload_n 0, 1) := by decide +kernel
theorem dX1_init_13 : decode cX1_init 13 = .ok (.sipush 180, 3) := by decide +kernel
theorem dX1_init_16 : decode cX1_init 16 = .ok (.newarray .int, 2) := by decide +kernel
theorem dX1_init_18 : decode cX1_init 18 = .ok (.putfield 15, 3) := by decide +kernel
theorem dX1_init_21 : decode cX1_init 21 = .ok (.aload_n 0, 1) := by decide +kernel
theorem dX1_init_22 : decode cX1_init 22 = .ok (.sipush 180, 3) := by decide +kernel
theorem dX1_init_25 : decode cX1_init 25 = .ok (.newarray .int, 2) := by decide +kernel
theorem dX1_init_27 : decode cX1_init 27 = .ok (.putfield 18, 3) := by decide +kernel
theorem dX1_init_30 : decode cX1_init 30 = .ok (.aload_n 0, 1) := by decide +kernel
theorem dX1_init_31 : decode cX1_init 31 = .ok (.bipush 60, 2) := by decide +kernel
theorem dX1_init_33 : decode cX1_init 33 = .ok (.newarray .int, 2) := by decide +kernel
theorem dX1_init_35 : decode cX1_init 35 = .ok (.putfield 21, 3) := by decide +kernel
theorem dX1_init_38 : decode cX1_init 38 = .ok (.aload_n 0, 1) := by decide +kernel
theorem dX1_init_39 : decode cX1_init 39 = .ok (.bipush 60, 2) := by decide +kernel
theorem dX1_init_41 : decode cX1_init 41 = .ok (.newarray .int, 2) := by decide +kernel
theorem dX1_init_43 : decode cX1_init 43 = .ok (.putfield 24, 3) := by decide +kernel
theorem dX1_init_46 : decode cX1_init 46 = .ok (.aload_n 0, 1) := by decide +kernel
theorem dX1_init_47 : decode cX1_init 47 = .ok (.bipush 60, 2) := by decide +kernel
theorem dX1_init_49 : decode cX1_init 49 = .ok (.newarray .int, 2) := by decide +kernel
theorem dX1_init_51 : decode cX1_init 51 = .ok (.putfield 27, 3) := by decide +kernel
theorem dX1_init_54 : decode cX1_init 54 = .ok (.aload_n 0, 1) := by decide +kernel
theorem dX1_init_55 : decode cX1_init 55 = .ok (.bipush 60, 2) := by decide +kernel
theorem dX1_init_57 : decode cX1_init 57 = .ok (.newarray .int, 2) := by decide +kernel
theorem dX1_init_59 : decode cX1_init 59 = .ok (.putfield 30, 3) := by decide +kernel
theorem dX1_init_62 : decode cX1_init 62 = .ok (.aload_n 0, 1) := by decide +kernel
theorem dX1_init_63 : decode cX1_init 63 = .ok (.bipush 60, 2) := by decide +kernel
theorem dX1_init_65 : decode cX1_init 65 = .ok (.newarray .int, 2) := by decide +kernel
theorem dX1_init_67 : decode cX1_init 67 = .ok (.putfield 33, 3) := by decide +kernel
theorem dX1_init_70 : decode cX1_init 70 = .ok (.return_, 1) := by decide +kernel
theorem dX1_clear_0 : decode cX1_clear 0 = .ok (.aload_n 0, 1) := by decide +kernel
theorem dX1_clear_1 : decode cX1_clear 1 = .ok (.iconst 0, 1) := by decide +kernel
theorem dX1_clear_2 : decode cX1_clear 2 = .ok (.putfield 36, 3) := by decide +kernel
theorem dX1_clear_5 : decode cX1_clear 5 = .ok (.aload_n 0, 1) := by decide +kernel
theorem dX1_clear_6 : decode cX1_clear 6 = .ok (.iconst 0, 1) := by decide +kernel
theorem dX1_clear_7 : decode cX1_clear 7 = .ok (.putfield 40, 3) := by decide +kernel
theorem dX1_clear_10 : decode cX1_clear 10 = .ok (.aload_n 0, 1) := by decide +kernel
theorem dX1_clear_11 : decode cX1_clear 11 = .ok (.iconst 0, 1) := by decide +kernel
theorem dX1_clear_12 : decode cX1_clear 12 = .ok (.putfield 43, 3) := by decide +kernel
theorem dX1_clear_15 : decode cX1_clear 15 = .ok (.aload_n 0, 1) := by decide +kernel
theorem dX1_clear_16 : decode cX1_clear 16 = .ok (.iconst 0, 1) := by decide +kernel
theorem dX1_clear_17 : decode cX1_clear 17 = .ok (.putfield 46, 3) := by decide +kernel
theorem dX1_clear_20 : decode cX1_clear 20 = .ok (.return_, 1) := by decide +kernel
theorem dX1_copyFrom_0 : decode cX1_copyFrom 0 = .ok (.aload_n 1, 1) := by decide +kernel
theorem dX1_copyFrom_1 : decode cX1_copyFrom 1 = .ok (.getfield 9, 3) := by decide +kernel
theorem dX1_copyFrom_4 : decode cX1_copyFrom 4 = .ok (.iconst 0, 1) := by decide +kernel
theorem dX1_copyFrom_5 : decode cX1_copyFrom 5 = .ok (.aload_n 0, 1) := by decide +kernel
theorem dX1_copyFrom_6 : decode cX1_copyFrom 6 = .ok (.getfield 9, 3) := by decide +kernel
theorem dX1_copyFrom_9 : decode cX1_copyFrom 9 = .ok (.iconst 0, 1) := by decide +kernel
theorem dX1_copyFrom_10 : decode cX1_copyFrom 10 = .ok (.bipush 60, 2) := by decide +kernel
theorem dX1_copyFrom_12 : decode cX1_copyFrom 12 = .ok (.invokestatic 50, 3) := by decide +kernel
theorem dX1_copyFrom_15 : decode cX1_copyFrom 15 = .ok (.aload_n 1, 1) := by decide +kernel
theorem dX1_copyFrom_16 : decode cX1_copyFrom 16 = .ok (.getfield 15, 3) := by decide +kernel
theorem dX1_copyFrom_19 : decode cX1_copyFrom 19 = .ok (.iconst 0, 1) := by decide +kernel
theorem dX1_copyFrom_20 : decode cX1_copyFrom 20 = .ok (.aload_n 0, 1) := by decide +kernel
theorem dX1_copyFrom_21 : decode cX1_copyFrom 21 = .ok (.getfield 15, 3) := by decide +kernel
theorem dX1_copyFrom_24 : decode cX1_copyFrom 24 = .ok (.iconst 0, 1) := by decide +kernel
theorem dX1_copyFrom_25 : decode cX1_copyFrom 25 = .ok (.sipush 180, 3) := by decide +kernel
theorem dX1_copyFrom_28 : decode cX1_copyFrom 28 = .ok (.invokestatic 50, 3) := by decide +kernel
theorem dX1_copyFrom_31 : decode cX1_copyFrom 31 = .ok (.aload_n 1, 1) := by decide +kernel
theorem dX1_copyFrom_32 : decode cX1_copyFrom 32 = .ok (.getfield 18, 3) := by decide +kernel
theorem dX1_copyFrom_35 : decode cX1_copyFrom 35 = .ok (.iconst 0, 1) := by decide +kernel
theorem dX1_copyFrom_36 : decode cX1_copyFrom 36 = .ok (.aload_n 0, 1) := by decide +kernel
theorem dX1_copyFrom_37 : decode cX1_copyFrom 37 = .ok (.getfield 18, 3) := by decide +kernel
theorem dX1_copyFrom_40 : decode cX1_copyFrom 40 = .ok (.iconst 0, 1) := by decide +kernel
theorem dX1_copyFrom_41 : decode cX1_copyFrom 41 = .ok (.sipush 180, 3) := by decide +kernel
theorem dX1_copyFrom_44 : decode cX1_copyFrom 44 = .ok (.invokestatic 50, 3) := by decide +kernel
theorem dX1_copyFrom_47 : decode cX1_copyFrom 47 = .ok (.aload_n 1, 1) := by decide +kernel
theorem dX1_copyFrom_48 : decode cX1_copyFrom 48 = .ok (.getfield 21, 3) := by decide +kernel
theorem dX1_copyFrom_51 : decode cX1_copyFrom 51 = .ok (.iconst 0, 1) := by decide +kernel
theorem dX1_copyFrom_52 : decode cX1_copyFrom 52 = .ok (.aload_n 0, 1) := by decide +kernel
theorem dX1_copyFrom_53 : decode cX1_copyFrom 53 = .ok (.getfield 21, 3) := by decide +kernel
theorem dX1_copyFrom_56 : decode cX1_copyFrom 56 = .ok (.iconst 0, 1) := by decide +kernel
theorem dX1_copyFrom_57 : decode cX1_copyFrom 57 = .ok (.bipush 60, 2) := by decide +kernel
theorem dX1_copyFrom_59 : decode cX1_copyFrom 59 = .ok (.invokestatic 50, 3) := by decide +kernel
theorem dX1_copyFrom_62 : decode cX1_copyFrom 62 = .ok (.aload_n 1, 1) := by decide +kernel
theorem dX1_copyFrom_63 : decode cX1_copyFrom 63 = .ok (.getfield 24, 3) := by decide +kernel
theorem dX1_copyFrom_66 : decode cX1_copyFrom 66 = .ok (.iconst 0, 1) := by decide +kernel
theorem dX1_copyFrom_67 : decode cX1_copyFrom 67 = .ok (.aload_n 0, 1) := by decide +kernel
theorem dX1_copyFrom_68 : decode cX1_copyFrom 68 = .ok (.getfield 24, 3) := by decide +kernel
theorem dX1_copyFrom_71 : decode cX1_copyFrom 71 = .ok (.iconst 0, 1) := by decide +kernel
theorem dX1_copyFrom_72 : decode cX1_copyFrom 72 = .ok (.bipush 60, 2) := by decide +kernel
theorem dX1_copyFrom_74 : decode cX1_copyFrom 74 = .ok (.invokestatic 50, 3) := by decide +kernel
theorem dX1_copyFrom_77 : decode cX1_copyFrom 77 = .ok (.aload_n 1, 1) := by decide +kernel
theorem dX1_copyFrom_78 : decode cX1_copyFrom 78 = .ok (.getfield 27, 3) := by decide +kernel
theorem dX1_copyFrom_81 : decode cX1_copyFrom 81 = .ok (.iconst 0, 1) := by decide +kernel
theorem dX1_copyFrom_82 : decode cX1_copyFrom 82 = .ok (.aload_n 0, 1) := by decide +kernel
theorem dX1_copyFrom_83 : decode cX1_copyFrom 83 = .ok (.getfield 27, 3) := by decide +kernel
theorem dX1_copyFrom_86 : decode cX1_copyFrom 86 = .ok (.iconst 0, 1) := by decide +kernel
theorem dX1_copyFrom_87 : decode cX1_copyFrom 87 = .ok (.bipush 60, 2) := by decide +kernel
theorem dX1_copyFrom_89 : decode cX1_copyFrom 89 = .ok (.invokestatic 50, 3) := by decide +kernel
theorem dX1_copyFrom_92 : decode cX1_copyFrom 92 = .ok (.aload_n 1, 1) := by decide +kernel
theorem dX1_copyFrom_93 : decode cX1_copyFrom 93 = .ok (.getfield 30, 3) := by decide +kernel
theorem dX1_copyFrom_96 : decode cX1_copyFrom 96 = .ok (.iconst 0, 1) := by decide +kernel
theorem dX1_copyFrom_97 : decode cX1_copyFrom 97 = .ok (.aload_n 0, 1) := by decide +kernel
theorem dX1_copyFrom_98 : decode cX1_copyFrom 98 = .ok (.getfield 30, 3) := by decide +kernel
theorem dX1_copyFrom_101 : decode cX1_copyFrom 101 = .ok (.iconst 0, 1) := by decide +kernel
theorem dX1_copyFrom_102 : decode cX1_copyFrom 102 = .ok (.bipush 60, 2) := by decide +kernel
theorem dX1_copyFrom_104 : decode cX1_copyFrom 104 = .ok (.invokestatic 50, 3) := by decide +kernel
theorem dX1_copyFrom_107 : decode cX1_copyFrom 107 = .ok (.aload_n 1, 1) := by decide +kernel
theorem dX1_copyFrom_108 : decode cX1_copyFrom 108 = .ok (.getfield 33, 3) := by decide +kernel
theorem dX1_copyFrom_111 : decode cX1_copyFrom 111 = .ok (.iconst 0, 1) := by decide +kernel
theorem dX1_copyFrom_112 : decode cX1_copyFrom 112 = .ok (.aload_n 0, 1) := by decide +kernel
theorem dX1_copyFrom_113 : decode cX1_copyFrom 113 = .ok (.getfield 33, 3) := by decide +kernel
theorem dX1_copyFrom_116 : decode cX1_copyFrom 116 = .ok (.iconst 0, 1) := by decide +kernel
theorem dX1_copyFrom_117 : decode cX1_copyFrom 117 = .ok (.bipush 60, 2) := by decide +kernel
theorem dX1_copyFrom_119 : decode cX1_copyFrom 119 = .ok (.invokestatic 50, 3) := by decide +kernel
theorem dX1_copyFrom_122 : decode cX1_copyFrom 122 = .ok (.aload_n 0, 1) := by decide +kernel
theorem dX1_copyFrom_123 : decode cX1_copyFrom 123 = .ok (.aload_n 1, 1) := by decide +kernel
theorem dX1_copyFrom_124 : decode cX1_copyFrom 124 = .ok (.getfield 36, 3) := by decide +kernel
theorem dX1_copyFrom_127 : decode cX1_copyFrom 127 = .ok (.putfield 36, 3) := by decide +kernel
theorem dX1_copyFrom_130 : decode cX1_copyFrom 130 = .ok (.aload_n 0, 1) := by decide +kernel
theorem dX1_copyFrom_131 : decode cX1_copyFrom 131 = .ok (.aload_n 1, 1) := by decide +kernel
theorem dX1_copyFrom_132 : decode cX1_copyFrom 132 = .ok (.getfield 40, 3) := by decide +kernel
theorem dX1_copyFrom_135 : decode cX1_copyFrom 135 = .ok (.putfield 40, 3) := by decide +kernel
theorem dX1_copyFrom_138 : decode cX1_copyFrom 138 = .ok (.aload_n 0, 1) := by decide +kernel
theorem dX1_copyFrom_139 : decode cX1_copyFrom 139 = .ok (.aload_n 1, 1) := by decide +kernel
theorem dX1_copyFrom_140 : decode cX1_copyFrom 140 = .ok (.getfield 43, 3) := by decide +kernel
theorem dX1_copyFrom_143 : decode cX1_copyFrom 143 = .ok (.putfield 43, 3) := by decide +kernel
theorem dX1_copyFrom_146 : decode cX1_copyFrom 146 = .ok (.aload_n 0, 1) := by decide +kernel
theorem dX1_copyFrom_147 : decode cX1_copyFrom 147 = .ok (.aload_n 1, 1) := by decide +kernel
theorem dX1_copyFrom_148 : decode cX1_copyFrom 148 = .ok (.getfield 46, 3) := by decide +kernel
theorem dX1_copyFrom_151 : decode cX1_copyFrom 151 = .ok (.putfield 46, 3) := by decide +kernel
theorem dX1_copyFrom_154 : decode cX1_copyFrom 154 = .ok (.return_, 1) := by decide +kernel
theorem dX1_add_0 : decode cX1_add 0 = .ok (.aload_n 0, 1) := by decide +kernel
theorem dX1_add_1 : decode cX1_add 1 = .ok (.getfield 36, 3) := by decide +kernel
theorem dX1_add_4 : decode cX1_add 4 = .ok (.bipush 60, 2) := by decide +kernel
theorem dX1_add_6 : decode cX1_add 6 = .ok (.if_icmp .lt 5, 3) := by decide +kernel
theorem dX1_add_9 : decode cX1_add 9 = .ok (.iconst (-1), 1) := by decide +kernel
theorem dX1_add_10 : decode cX1_add 10 = .ok (.ireturn, 1) := by decide +kernel
theorem dX1_add_11 : decode cX1_add 11 = .ok (.aload_n 0, 1) := by decide +kernel
theorem dX1_add_12 : decode cX1_add 12 = .ok (.getfield 36, 3) := by decide +kernel
theorem dX1_add_15 : decode cX1_add 15 = .ok (.istore 5, 2) := by decide +kernel
theorem dX1_add_17 : decode cX1_add 17 = .ok (.aload_n 0, 1) := by decide +kernel
theorem dX1_add_18 : decode cX1_add 18 = .ok (.dup, 1) := by decide +kernel
theorem dX1_add_19 : decode cX1_add 19 = .ok (.getfield 36, 3) := by decide +kernel
theorem dX1_add_22 : decode cX1_add 22 = .ok (.iconst 1, 1) := by decide +kernel
theorem dX1_add_23 : decode cX1_add 23 = .ok (.iadd, 1) := by decide +kernel
theorem dX1_add_24 : decode cX1_add 24 = .ok (.putfield 36, 3) := by decide +kernel
theorem dX1_add_27 : decode cX1_add 27 = .ok (.aload_n 0, 1) := by decide +kernel
theorem dX1_add_28 : decode cX1_add 28 = .ok (.getfield 9, 3) := by decide +kernel
theorem dX1_add_31 : decode cX1_add 31 = .ok (.iload 5, 2) := by decide +kernel
theorem dX1_add_33 : decode cX1_add 33 = .ok (.iload_n 1, 1) := by decide +kernel
theorem dX1_add_34 : decode cX1_add 34 = .ok (.iastore, 1) := by decide +kernel
theorem dX1_add_35 : decode cX1_add 35 = .ok (.aload_n 0, 1) := by decide +kernel
theorem dX1_add_36 : decode cX1_add 36 = .ok (.getfield 15, 3) := by decide +kernel
theorem dX1_add_39 : decode cX1_add 39 = .ok (.iload 5, 2) := by decide +kernel
theorem dX1_add_41 : decode cX1_add 41 = .ok (.iconst 3, 1) := by decide +kernel
theorem dX1_add_42 : decode cX1_add 42 = .ok (.imul, 1) := by decide +kernel
theorem dX1_add_43 : decode cX1_add 43 = .ok (.iload_n 2, 1) := by decide +kernel
theorem dX1_add_44 : decode cX1_add 44 = .ok (.iastore, 1) := by decide +kernel
theorem dX1_add_45 : decode cX1_add 45 = .ok (.aload_n 0, 1) := by decide +kernel
theorem dX1_add_46 : decode cX1_add 46 = .ok (.getfield 15, 3) := by decide +kernel
theorem dX1_add_49 : decode cX1_add 49 = .ok (.iload 5, 2) := by decide +kernel
theorem dX1_add_51 : decode cX1_add 51 = .ok (.iconst 3, 1) := by decide +kernel
theorem dX1_add_52 : decode cX1_add 52 = .ok (.imul, 1) := by decide +kernel
theorem dX1_add_53 : decode cX1_add 53 = .ok (.iconst 1, 1) := by decide +kernel
theorem dX1_add_54 : decode cX1_add 54 = .ok (.iadd, 1) := by decide +kernel
theorem dX1_add_55 : decode cX1_add 55 = .ok (.iload_n 3, 1) := by decide +kernel
theorem dX1_add_56 : decode cX1_add 56 = .ok (.iastore, 1) := by decide +kernel
theorem dX1_add_57 : decode cX1_add 57 = .ok (.aload_n 0, 1) := by decide +kernel
theorem dX1_add_58 : decode cX1_add 58 = .ok (.getfield 15, 3) := by decide +kernel
theorem dX1_add_61 : decode cX1_add 61 = .ok (.iload 5, 2) := by decide +kernel
theorem dX1_add_63 : decode cX1_add 63 = .ok (.iconst 3, 1) := by decide +kernel
theorem dX1_add_64 : decode cX1_add 64 = .ok (.imul, 1) := by decide +kernel
theorem dX1_add_65 : decode cX1_add 65 = .ok (.iconst 2, 1) := by decide +kernel
theorem dX1_add_66 : decode cX1_add 66 = .ok (.iadd, 1) := by decide +kernel
theorem dX1_add_67 : decode cX1_add 67 = .ok (.iload 4, 2) := by decide +kernel
theorem dX1_add_69 : decode cX1_add 69 = .ok (.iastore, 1) := by decide +kernel
theorem dX1_add_70 : decode cX1_add 70 = .ok (.iconst 0, 1) := by decide +kernel
theorem dX1_add_71 : decode cX1_add 71 = .ok (.istore 6, 2) := by decide +kernel
theorem dX1_add_73 : decode cX1_add 73 = .ok (.iload 6, 2) := by decide +kernel
theorem dX1_add_75 : decode cX1_add 75 = .ok (.iconst 3, 1) := by decide +kernel
theorem dX1_add_76 : decode cX1_add 76 = .ok (.if_icmp .ge 22, 3) := by decide +kernel
theorem dX1_add_79 : decode cX1_add 79 = .ok (.aload_n 0, 1) := by decide +kernel
theorem dX1_add_80 : decode cX1_add 80 = .ok (.getfield 18, 3) := by decide +kernel
theorem dX1_add_83 : decode cX1_add 83 = .ok (.iload 5, 2) := by decide +kernel
theorem dX1_add_85 : decode cX1_add 85 = .ok (.iconst 3, 1) := by decide +kernel
theorem dX1_add_86 : decode cX1_add 86 = .ok (.imul, 1) := by decide +kernel
theorem dX1_add_87 : decode cX1_add 87 = .ok (.iload 6, 2) := by decide +kernel
theorem dX1_add_89 : decode cX1_add 89 = .ok (.iadd, 1) := by decide +kernel
theorem dX1_add_90 : decode cX1_add 90 = .ok (.iconst (-1), 1) := by decide +kernel
theorem dX1_add_91 : decode cX1_add 91 = .ok (.iastore, 1) := by decide +kernel
theorem dX1_add_92 : decode cX1_add 92 = .ok (.iinc 6 1, 3) := by decide +kernel
theorem dX1_add_95 : decode cX1_add 95 = .ok (.goto (-22), 3) := by decide +kernel
theorem dX1_add_98 : decode cX1_add 98 = .ok (.aload_n 0, 1) := by decide +kernel
theorem dX1_add_99 : decode cX1_add 99 = .ok (.getfield 21, 3) := by decide +kernel
theorem dX1_add_102 : decode cX1_add 102 = .ok (.iload 5, 2) := by decide +kernel
theorem dX1_add_104 : decode cX1_add 104 = .ok (.iconst 0, 1) := by decide +kernel
theorem dX1_add_105 : decode cX1_add 105 = .ok (.iastore, 1) := by decide +kernel
theorem dX1_add_106 : decode cX1_add 106 = .ok (.aload_n 0, 1) := by decide +kernel
theorem dX1_add_107 : decode cX1_add 107 = .ok (.getfield 24, 3) := by decide +kernel
theorem dX1_add_110 : decode cX1_add 110 = .ok (.iload 5, 2) := by decide +kernel
theorem dX1_add_112 : decode cX1_add 112 = .ok (.iconst 0, 1) := by decide +kernel
theorem dX1_add_113 : decode cX1_add 113 = .ok (.iastore, 1) := by decide +kernel
theorem dX1_add_114 : decode cX1_add 114 = .ok (.aload_n 0, 1) := by decide +kernel
theorem dX1_add_115 : decode cX1_add 115 = .ok (.getfield 27, 3) := by decide +kernel
theorem dX1_add_118 : decode cX1_add 118 = .ok (.iload 5, 2) := by decide +kernel
theorem dX1_add_120 : decode cX1_add 120 = .ok (.aload_n 0, 1) := by decide +kernel
theorem dX1_add_121 : decode cX1_add 121 = .ok (.getfield 43, 3) := by decide +kernel
theorem dX1_add_124 : decode cX1_add 124 = .ok (.iastore, 1) := by decide +kernel
theorem dX1_add_125 : decode cX1_add 125 = .ok (.aload_n 0, 1) := by decide +kernel
theorem dX1_add_126 : decode cX1_add 126 = .ok (.getfield 30, 3) := by decide +kernel
theorem dX1_add_129 : decode cX1_add 129 = .ok (.iload 5, 2) := by decide +kernel
theorem dX1_add_131 : decode cX1_add 131 = .ok (.iconst (-1), 1) := by decide +kernel
theorem dX1_add_132 : decode cX1_add 132 = .ok (.iastore, 1) := by decide +kernel
theorem dX1_add_133 : decode cX1_add 133 = .ok (.aload_n 0, 1) := by decide +kernel
theorem dX1_add_134 : decode cX1_add 134 = .ok (.getfield 33, 3) := by decide +kernel
theorem dX1_add_137 : decode cX1_add 137 = .ok (.iload 5, 2) := by decide +kernel
theorem dX1_add_139 : decode cX1_add 139 = .ok (.iconst (-1), 1) := by decide +kernel
theorem dX1_add_140 : decode cX1_add 140 = .ok (.iastore, 1) := by decide +kernel
theorem dX1_add_141 : decode cX1_add 141 = .ok (.iload 5, 2) := by decide +kernel
theorem dX1_add_143 : decode cX1_add 143 = .ok (.ireturn, 1) := by decide +kernel
theorem dX1_tie_0 : decode cX1_tie 0 = .ok (.aload_n 0, 1) := by decide +kernel
theorem dX1_tie_1 : decode cX1_tie 1 = .ok (.getfield 18, 3) := by decide +kernel
theorem dX1_tie_4 : decode cX1_tie 4 = .ok (.iload_n 1, 1) := by decide +kernel
theorem dX1_tie_5 : decode cX1_tie 5 = .ok (.iconst 3, 1) := by decide +kernel
theorem dX1_tie_6 : decode cX1_tie 6 = .ok (.imul, 1) := by decide +kernel
theorem dX1_tie_7 : decode cX1_tie 7 = .ok (.iload_n 2, 1) := by decide +kernel
theorem dX1_tie_8 : decode cX1_tie 8 = .ok (.iadd, 1) := by decide +kernel
theorem dX1_tie_9 : decode cX1_tie 9 = .ok (.iload_n 3, 1) := by decide +kernel
theorem dX1_tie_10 : decode cX1_tie 10 = .ok (.iastore, 1) := by decide +kernel
theorem dX1_tie_11 : decode cX1_tie 11 = .ok (.aload_n 0, 1) := by decide +kernel
theorem dX1_tie_12 : decode cX1_tie 12 = .ok (.getfield 15, 3) := by decide +kernel
theorem dX1_tie_15 : decode cX1_tie 15 = .ok (.iload_n 1, 1) := by decide +kernel
theorem dX1_tie_16 : decode cX1_tie 16 = .ok (.iconst 3, 1) := by decide +kernel
theorem dX1_tie_17 : decode cX1_tie 17 = .ok (.imul, 1) := by decide +kernel
theorem dX1_tie_18 : decode cX1_tie 18 = .ok (.iload_n 2, 1) := by decide +kernel
theorem dX1_tie_19 : decode cX1_tie 19 = .ok (.iadd, 1) := by decide +kernel
theorem dX1_tie_20 : decode cX1_tie 20 = .ok (.iconst 0, 1) := by decide +kernel
theorem dX1_tie_21 : decode cX1_tie 21 = .ok (.iastore, 1) := by decide +kernel
theorem dX1_tie_22 : decode cX1_tie 22 = .ok (.return_, 1) := by decide +kernel
theorem dX1_howMany_0 : decode cX1_howMany 0 = .ok (.iconst 0, 1) := by decide +kernel
theorem dX1_howMany_1 : decode cX1_howMany 1 = .ok (.istore_n 2, 1) := by decide +kernel
theorem dX1_howMany_2 : decode cX1_howMany 2 = .ok (.iconst 0, 1) := by decide +kernel
theorem dX1_howMany_3 : decode cX1_howMany 3 = .ok (.istore_n 3, 1) := by decide +kernel
theorem dX1_howMany_4 : decode cX1_howMany 4 = .ok (.iload_n 3, 1) := by decide +kernel
theorem dX1_howMany_5 : decode cX1_howMany 5 = .ok (.aload_n 0, 1) := by decide +kernel
theorem dX1_howMany_6 : decode cX1_howMany 6 = .ok (.getfield 36, 3) := by decide +kernel
theorem dX1_howMany_9 : decode cX1_howMany 9 = .ok (.if_icmp .ge 27, 3) := by decide +kernel
theorem dX1_howMany_12 : decode cX1_howMany 12 = .ok (.iload_n 2, 1) := by decide +kernel
theorem dX1_howMany_13 : decode cX1_howMany 13 = .ok (.aload_n 0, 1) := by decide +kernel
theorem dX1_howMany_14 : decode cX1_howMany 14 = .ok (.getfield 21, 3) := by decide +kernel
theorem dX1_howMany_17 : decode cX1_howMany 17 = .ok (.iload_n 3, 1) := by decide +kernel
theorem dX1_howMany_18 : decode cX1_howMany 18 = .ok (.iaload, 1) := by decide +kernel
theorem dX1_howMany_19 : decode cX1_howMany 19 = .ok (.iload_n 1, 1) := by decide +kernel
theorem dX1_howMany_20 : decode cX1_howMany 20 = .ok (.if_icmp .ne 7, 3) := by decide +kernel
theorem dX1_howMany_23 : decode cX1_howMany 23 = .ok (.iconst 1, 1) := by decide +kernel
theorem dX1_howMany_24 : decode cX1_howMany 24 = .ok (.goto 4, 3) := by decide +kernel
theorem dX1_howMany_27 : decode cX1_howMany 27 = .ok (.iconst 0, 1) := by decide +kernel
theorem dX1_howMany_28 : decode cX1_howMany 28 = .ok (.iadd, 1) := by decide +kernel
theorem dX1_howMany_29 : decode cX1_howMany 29 = .ok (.istore_n 2, 1) := by decide +kernel
theorem dX1_howMany_30 : decode cX1_howMany 30 = .ok (.iinc 3 1, 3) := by decide +kernel
theorem dX1_howMany_33 : decode cX1_howMany 33 = .ok (.goto (-29), 3) := by decide +kernel
theorem dX1_howMany_36 : decode cX1_howMany 36 = .ok (.iload_n 2, 1) := by decide +kernel
theorem dX1_howMany_37 : decode cX1_howMany 37 = .ok (.ireturn, 1) := by decide +kernel
theorem dX1_isBusy_0 : decode cX1_isBusy 0 = .ok (.aload_n 0, 1) := by decide +kernel
theorem dX1_isBusy_1 : decode cX1_isBusy 1 = .ok (.getfield 40, 3) := by decide +kernel
theorem dX1_isBusy_4 : decode cX1_isBusy 4 = .ok (.aload_n 0, 1) := by decide +kernel
theorem dX1_isBusy_5 : decode cX1_isBusy 5 = .ok (.getfield 36, 3) := by decide +kernel
theorem dX1_isBusy_8 : decode cX1_isBusy 8 = .ok (.if_icmp .ge 42, 3) := by decide +kernel
theorem dX1_isBusy_11 : decode cX1_isBusy 11 = .ok (.aload_n 0, 1) := by decide +kernel
theorem dX1_isBusy_12 : decode cX1_isBusy 12 = .ok (.getfield 21, 3) := by decide +kernel
theorem dX1_isBusy_15 : decode cX1_isBusy 15 = .ok (.aload_n 0, 1) := by decide +kernel
theorem dX1_isBusy_16 : decode cX1_isBusy 16 = .ok (.getfield 40, 3) := by decide +kernel
theorem dX1_isBusy_19 : decode cX1_isBusy 19 = .ok (.iaload, 1) := by decide +kernel
theorem dX1_isBusy_20 : decode cX1_isBusy 20 = .ok (.iconst 2, 1) := by decide +kernel
theorem dX1_isBusy_21 : decode cX1_isBusy 21 = .ok (.if_icmp .eq 16, 3) := by decide +kernel
theorem dX1_isBusy_24 : decode cX1_isBusy 24 = .ok (.aload_n 0, 1) := by decide +kernel
theorem dX1_isBusy_25 : decode cX1_isBusy 25 = .ok (.getfield 21, 3) := by decide +kernel
theorem dX1_isBusy_28 : decode cX1_isBusy 28 = .ok (.aload_n 0, 1) := by decide +kernel
theorem dX1_isBusy_29 : decode cX1_isBusy 29 = .ok (.getfield 40, 3) := by decide +kernel
theorem dX1_isBusy_32 : decode cX1_isBusy 32 = .ok (.iaload, 1) := by decide +kernel
theorem dX1_isBusy_33 : decode cX1_isBusy 33 = .ok (.iconst 3, 1) := by decide +kernel
theorem dX1_isBusy_34 : decode cX1_isBusy 34 = .ok (.if_icmp .ne 16, 3) := by decide +kernel
theorem dX1_isBusy_37 : decode cX1_isBusy 37 = .ok (.aload_n 0, 1) := by decide +kernel
theorem dX1_isBusy_38 : decode cX1_isBusy 38 = .ok (.dup, 1) := by decide +kernel
theorem dX1_isBusy_39 : decode cX1_isBusy 39 = .ok (.getfield 40, 3) := by decide +kernel
theorem dX1_isBusy_42 : decode cX1_isBusy 42 = .ok (.iconst 1, 1) := by decide +kernel
theorem dX1_isBusy_43 : decode cX1_isBusy 43 = .ok (.iadd, 1) := by decide +kernel
theorem dX1_isBusy_44 : decode cX1_isBusy 44 = .ok (.putfield 40, 3) := by decide +kernel
theorem dX1_isBusy_47 : decode cX1_isBusy 47 = .ok (.goto (-47), 3) := by decide +kernel
theorem dX1_isBusy_50 : decode cX1_isBusy 50 = .ok (.aload_n 0, 1) := by decide +kernel
theorem dX1_isBusy_51 : decode cX1_isBusy 51 = .ok (.getfield 40, 3) := by decide +kernel
theorem dX1_isBusy_54 : decode cX1_isBusy 54 = .ok (.aload_n 0, 1) := by decide +kernel
theorem dX1_isBusy_55 : decode cX1_isBusy 55 = .ok (.getfield 36, 3) := by decide +kernel
theorem dX1_isBusy_58 : decode cX1_isBusy 58 = .ok (.if_icmp .ge 7, 3) := by decide +kernel
theorem dX1_isBusy_61 : decode cX1_isBusy 61 = .ok (.iconst 1, 1) := by decide +kernel
theorem dX1_isBusy_62 : decode cX1_isBusy 62 = .ok (.goto 4, 3) := by decide +kernel
theorem dX1_isBusy_65 : decode cX1_isBusy 65 = .ok (.iconst 0, 1) := by decide +kernel
theorem dX1_isBusy_66 : decode cX1_isBusy 66 = .ok (.ireturn, 1) := by decide +kernel
theorem dX1_waiting_0 : decode cX1_waiting 0 = .ok (.iload_n 1, 1) := by decide +kernel
theorem dX1_waiting_1 : decode cX1_waiting 1 = .ok (.istore_n 2, 1) := by decide +kernel
theorem dX1_waiting_2 : decode cX1_waiting 2 = .ok (.aload_n 0, 1) := by decide +kernel
theorem dX1_waiting_3 : decode cX1_waiting 3 = .ok (.getfield 40, 3) := by decide +kernel
theorem dX1_waiting_6 : decode cX1_waiting 6 = .ok (.istore_n 3, 1) := by decide +kernel
theorem dX1_waiting_7 : decode cX1_waiting 7 = .ok (.iload_n 3, 1) := by decide +kernel
theorem dX1_waiting_8 : decode cX1_waiting 8 = .ok (.aload_n 0, 1) := by decide +kernel
theorem dX1_waiting_9 : decode cX1_waiting 9 = .ok (.getfield 36, 3) := by decide +kernel
theorem dX1_waiting_12 : decode cX1_waiting 12 = .ok (.if_icmp .ge 27, 3) := by decide +kernel
theorem dX1_waiting_15 : decode cX1_waiting 15 = .ok (.aload_n 0, 1) := by decide +kernel
theorem dX1_waiting_16 : decode cX1_waiting 16 = .ok (.getfield 21, 3) := by decide +kernel
theorem dX1_waiting_19 : decode cX1_waiting 19 = .ok (.iload_n 3, 1) := by decide +kernel
theorem dX1_waiting_20 : decode cX1_waiting 20 = .ok (.iaload, 1) := by decide +kernel
theorem dX1_waiting_21 : decode cX1_waiting 21 = .ok (.ifCond .ne 12, 3) := by decide +kernel
theorem dX1_waiting_24 : decode cX1_waiting 24 = .ok (.iload_n 2, 1) := by decide +kernel
theorem dX1_waiting_25 : decode cX1_waiting 25 = .ok (.ifCond .ne 5, 3) := by decide +kernel
theorem dX1_waiting_28 : decode cX1_waiting 28 = .ok (.iload_n 3, 1) := by decide +kernel
theorem dX1_waiting_29 : decode cX1_waiting 29 = .ok (.ireturn, 1) := by decide +kernel
theorem dX1_waiting_30 : decode cX1_waiting 30 = .ok (.iinc 2 (-1), 3) := by decide +kernel
theorem dX1_waiting_33 : decode cX1_waiting 33 = .ok (.iinc 3 1, 3) := by decide +kernel
theorem dX1_waiting_36 : decode cX1_waiting 36 = .ok (.goto (-29), 3) := by decide +kernel
theorem dX1_waiting_39 : decode cX1_waiting 39 = .ok (.iconst (-1), 1) := by decide +kernel
theorem dX1_waiting_40 : decode cX1_waiting 40 = .ok (.ireturn, 1) := by decide +kernel
theorem dX1_isAwaited_0 : decode cX1_isAwaited 0 = .ok (.iconst 0, 1) := by decide +kernel
theorem dX1_isAwaited_1 : decode cX1_isAwaited 1 = .ok (.istore_n 2, 1) := by decide +kernel
theorem dX1_isAwaited_2 : decode cX1_isAwaited 2 = .ok (.iload_n 2, 1) := by decide +kernel
theorem dX1_isAwaited_3 : decode cX1_isAwaited 3 = .ok (.aload_n 0, 1) := by decide +kernel
theorem dX1_isAwaited_4 : decode cX1_isAwaited 4 = .ok (.getfield 36, 3) := by decide +kernel
theorem dX1_isAwaited_7 : decode cX1_isAwaited 7 = .ok (.iconst 3, 1) := by decide +kernel
theorem dX1_isAwaited_8 : decode cX1_isAwaited 8 = .ok (.imul, 1) := by decide +kernel
theorem dX1_isAwaited_9 : decode cX1_isAwaited 9 = .ok (.if_icmp .ge 44, 3) := by decide +kernel
theorem dX1_isAwaited_12 : decode cX1_isAwaited 12 = .ok (.aload_n 0, 1) := by decide +kernel
theorem dX1_isAwaited_13 : decode cX1_isAwaited 13 = .ok (.getfield 18, 3) := by decide +kernel
theorem dX1_isAwaited_16 : decode cX1_isAwaited 16 = .ok (.iload_n 2, 1) := by decide +kernel
theorem dX1_isAwaited_17 : decode cX1_isAwaited 17 = .ok (.iaload, 1) := by decide +kernel
theorem dX1_isAwaited_18 : decode cX1_isAwaited 18 = .ok (.iconst (-1), 1) := by decide +kernel
theorem dX1_isAwaited_19 : decode cX1_isAwaited 19 = .ok (.if_icmp .eq 28, 3) := by decide +kernel
theorem dX1_isAwaited_22 : decode cX1_isAwaited 22 = .ok (.aload_n 0, 1) := by decide +kernel
theorem dX1_isAwaited_23 : decode cX1_isAwaited 23 = .ok (.getfield 18, 3) := by decide +kernel
theorem dX1_isAwaited_26 : decode cX1_isAwaited 26 = .ok (.iload_n 2, 1) := by decide +kernel
theorem dX1_isAwaited_27 : decode cX1_isAwaited 27 = .ok (.iaload, 1) := by decide +kernel
theorem dX1_isAwaited_28 : decode cX1_isAwaited 28 = .ok (.iconst 1, 1) := by decide +kernel
theorem dX1_isAwaited_29 : decode cX1_isAwaited 29 = .ok (.ishr, 1) := by decide +kernel
theorem dX1_isAwaited_30 : decode cX1_isAwaited 30 = .ok (.iload_n 1, 1) := by decide +kernel
theorem dX1_isAwaited_31 : decode cX1_isAwaited 31 = .ok (.if_icmp .ne 16, 3) := by decide +kernel
theorem dX1_isAwaited_34 : decode cX1_isAwaited 34 = .ok (.aload_n 0, 1) := by decide +kernel
theorem dX1_isAwaited_35 : decode cX1_isAwaited 35 = .ok (.getfield 21, 3) := by decide +kernel
theorem dX1_isAwaited_38 : decode cX1_isAwaited 38 = .ok (.iload_n 2, 1) := by decide +kernel
theorem dX1_isAwaited_39 : decode cX1_isAwaited 39 = .ok (.iconst 3, 1) := by decide +kernel
theorem dX1_isAwaited_40 : decode cX1_isAwaited 40 = .ok (.idiv, 1) := by decide +kernel
theorem dX1_isAwaited_41 : decode cX1_isAwaited 41 = .ok (.iaload, 1) := by decide +kernel
theorem dX1_isAwaited_42 : decode cX1_isAwaited 42 = .ok (.ifCond .ne 5, 3) := by decide +kernel
theorem dX1_isAwaited_45 : decode cX1_isAwaited 45 = .ok (.iconst 1, 1) := by decide +kernel
theorem dX1_isAwaited_46 : decode cX1_isAwaited 46 = .ok (.ireturn, 1) := by decide +kernel
theorem dX1_isAwaited_47 : decode cX1_isAwaited 47 = .ok (.iinc 2 1, 3) := by decide +kernel
theorem dX1_isAwaited_50 : decode cX1_isAwaited 50 = .ok (.goto (-48), 3) := by decide +kernel
theorem dX1_isAwaited_53 : decode cX1_isAwaited 53 = .ok (.iconst 0, 1) := by decide +kernel
theorem dX1_isAwaited_54 : decode cX1_isAwaited 54 = .ok (.ireturn, 1) := by decide +kernel
theorem dX1_aheadOf_0 : decode cX1_aheadOf 0 = .ok (.aload_n 0, 1) := by decide +kernel
theorem dX1_aheadOf_1 : decode cX1_aheadOf 1 = .ok (.getfield 40, 3) := by decide +kernel
theorem dX1_aheadOf_4 : decode cX1_aheadOf 4 = .ok (.istore_n 2, 1) := by decide +kernel
theorem dX1_aheadOf_5 : decode cX1_aheadOf 5 = .ok (.iload_n 2, 1) := by decide +kernel
theorem dX1_aheadOf_6 : decode cX1_aheadOf 6 = .ok (.aload_n 0, 1) := by decide +kernel
theorem dX1_aheadOf_7 : decode cX1_aheadOf 7 = .ok (.getfield 36, 3) := by decide +kernel
theorem dX1_aheadOf_10 : decode cX1_aheadOf 10 = .ok (.if_icmp .ge 31, 3) := by decide +kernel
theorem dX1_aheadOf_13 : decode cX1_aheadOf 13 = .ok (.aload_n 0, 1) := by decide +kernel
theorem dX1_aheadOf_14 : decode cX1_aheadOf 14 = .ok (.getfield 21, 3) := by decide +kernel
theorem dX1_aheadOf_17 : decode cX1_aheadOf 17 = .ok (.iload_n 2, 1) := by decide +kernel
theorem dX1_aheadOf_18 : decode cX1_aheadOf 18 = .ok (.iaload, 1) := by decide +kernel
theorem dX1_aheadOf_19 : decode cX1_aheadOf 19 = .ok (.iconst 1, 1) := by decide +kernel
theorem dX1_aheadOf_20 : decode cX1_aheadOf 20 = .ok (.if_icmp .ne 15, 3) := by decide +kernel
theorem dX1_aheadOf_23 : decode cX1_aheadOf 23 = .ok (.aload_n 0, 1) := by decide +kernel
theorem dX1_aheadOf_24 : decode cX1_aheadOf 24 = .ok (.getfield 24, 3) := by decide +kernel
theorem dX1_aheadOf_27 : decode cX1_aheadOf 27 = .ok (.iload_n 2, 1) := by decide +kernel
theorem dX1_aheadOf_28 : decode cX1_aheadOf 28 = .ok (.iaload, 1) := by decide +kernel
theorem dX1_aheadOf_29 : decode cX1_aheadOf 29 = .ok (.iload_n 1, 1) := by decide +kernel
theorem dX1_aheadOf_30 : decode cX1_aheadOf 30 = .ok (.if_icmp .ne 5, 3) := by decide +kernel
theorem dX1_aheadOf_33 : decode cX1_aheadOf 33 = .ok (.iload_n 2, 1) := by decide +kernel
theorem dX1_aheadOf_34 : decode cX1_aheadOf 34 = .ok (.ireturn, 1) := by decide +kernel
theorem dX1_aheadOf_35 : decode cX1_aheadOf 35 = .ok (.iinc 2 1, 3) := by decide +kernel
theorem dX1_aheadOf_38 : decode cX1_aheadOf 38 = .ok (.goto (-33), 3) := by decide +kernel
theorem dX1_aheadOf_41 : decode cX1_aheadOf 41 = .ok (.iconst (-1), 1) := by decide +kernel
theorem dX1_aheadOf_42 : decode cX1_aheadOf 42 = .ok (.ireturn, 1) := by decide +kernel
theorem dX1_standsIn_0 : decode cX1_standsIn 0 = .ok (.aload_n 0, 1) := by decide +kernel
theorem dX1_standsIn_1 : decode cX1_standsIn 1 = .ok (.getfield 40, 3) := by decide +kernel
theorem dX1_standsIn_4 : decode cX1_standsIn 4 = .ok (.istore_n 3, 1) := by decide +kernel
theorem dX1_standsIn_5 : decode cX1_standsIn 5 = .ok (.iload_n 3, 1) := by decide +kernel
theorem dX1_standsIn_6 : decode cX1_standsIn 6 = .ok (.aload_n 0, 1) := by decide +kernel
theorem dX1_standsIn_7 : decode cX1_standsIn 7 = .ok (.getfield 36, 3) := by decide +kernel
theorem dX1_standsIn_10 : decode cX1_standsIn 10 = .ok (.if_icmp .ge 65, 3) := by decide +kernel
theorem dX1_standsIn_13 : decode cX1_standsIn 13 = .ok (.aload_n 0, 1) := by decide +kernel
theorem dX1_standsIn_14 : decode cX1_standsIn 14 = .ok (.getfield 21, 3) := by decide +kernel
theorem dX1_standsIn_17 : decode cX1_standsIn 17 = .ok (.iload_n 3, 1) := by decide +kernel
theorem dX1_standsIn_18 : decode cX1_standsIn 18 = .ok (.iaload, 1) := by decide +kernel
theorem dX1_standsIn_19 : decode cX1_standsIn 19 = .ok (.ifCond .eq 56, 3) := by decide +kernel
theorem dX1_standsIn_22 : decode cX1_standsIn 22 = .ok (.aload_n 0, 1) := by decide +kernel
theorem dX1_standsIn_23 : decode cX1_standsIn 23 = .ok (.getfield 21, 3) := by decide +kernel
theorem dX1_standsIn_26 : decode cX1_standsIn 26 = .ok (.iload_n 3, 1) := by decide +kernel
theorem dX1_standsIn_27 : decode cX1_standsIn 27 = .ok (.iaload, 1) := by decide +kernel
theorem dX1_standsIn_28 : decode cX1_standsIn 28 = .ok (.iconst 1, 1) := by decide +kernel
theorem dX1_standsIn_29 : decode cX1_standsIn 29 = .ok (.if_icmp .ne 40, 3) := by decide +kernel
theorem dX1_standsIn_32 : decode cX1_standsIn 32 = .ok (.aload_n 0, 1) := by decide +kernel
theorem dX1_standsIn_33 : decode cX1_standsIn 33 = .ok (.getfield 24, 3) := by decide +kernel
theorem dX1_standsIn_36 : decode cX1_standsIn 36 = .ok (.iload_n 3, 1) := by decide +kernel
theorem dX1_standsIn_37 : decode cX1_standsIn 37 = .ok (.iaload, 1) := by decide +kernel
theorem dX1_standsIn_38 : decode cX1_standsIn 38 = .ok (.aload_n 2, 1) := by decide +kernel
theorem dX1_standsIn_39 : decode cX1_standsIn 39 = .ok (.getfield 56, 3) := by decide +kernel
theorem dX1_standsIn_42 : decode cX1_standsIn 42 = .ok (.if_icmp .ge 27, 3) := by decide +kernel
theorem dX1_standsIn_45 : decode cX1_standsIn 45 = .ok (.aload_n 2, 1) := by decide +kernel
theorem dX1_standsIn_46 : decode cX1_standsIn 46 = .ok (.getfield 61, 3) := by decide +kernel
theorem dX1_standsIn_49 : decode cX1_standsIn 49 = .ok (.ifCond .le 20, 3) := by decide +kernel
theorem dX1_standsIn_52 : decode cX1_standsIn 52 = .ok (.aload_n 0, 1) := by decide +kernel
theorem dX1_standsIn_53 : decode cX1_standsIn 53 = .ok (.getfield 24, 3) := by decide +kernel
theorem dX1_standsIn_56 : decode cX1_standsIn 56 = .ok (.iload_n 3, 1) := by decide +kernel
theorem dX1_standsIn_57 : decode cX1_standsIn 57 = .ok (.iaload, 1) := by decide +kernel
theorem dX1_standsIn_58 : decode cX1_standsIn 58 = .ok (.aload_n 2, 1) := by decide +kernel
theorem dX1_standsIn_59 : decode cX1_standsIn 59 = .ok (.getfield 61, 3) := by decide +kernel
theorem dX1_standsIn_62 : decode cX1_standsIn 62 = .ok (.irem, 1) := by decide +kernel
theorem dX1_standsIn_63 : decode cX1_standsIn 63 = .ok (.iload_n 1, 1) := by decide +kernel
theorem dX1_standsIn_64 : decode cX1_standsIn 64 = .ok (.if_icmp .ne 5, 3) := by decide +kernel
theorem dX1_standsIn_67 : decode cX1_standsIn 67 = .ok (.iload_n 3, 1) := by decide +kernel
theorem dX1_standsIn_68 : decode cX1_standsIn 68 = .ok (.ireturn, 1) := by decide +kernel
theorem dX1_standsIn_69 : decode cX1_standsIn 69 = .ok (.iinc 3 1, 3) := by decide +kernel
theorem dX1_standsIn_72 : decode cX1_standsIn 72 = .ok (.goto (-67), 3) := by decide +kernel
theorem dX1_standsIn_75 : decode cX1_standsIn 75 = .ok (.iconst (-1), 1) := by decide +kernel
theorem dX1_standsIn_76 : decode cX1_standsIn 76 = .ok (.ireturn, 1) := by decide +kernel
theorem dX1_tick_0 : decode cX1_tick 0 = .ok (.aload_n 0, 1) := by decide +kernel
theorem dX1_tick_1 : decode cX1_tick 1 = .ok (.dup, 1) := by decide +kernel
theorem dX1_tick_2 : decode cX1_tick 2 = .ok (.getfield 43, 3) := by decide +kernel
theorem dX1_tick_5 : decode cX1_tick 5 = .ok (.iconst 1, 1) := by decide +kernel
theorem dX1_tick_6 : decode cX1_tick 6 = .ok (.iadd, 1) := by decide +kernel
theorem dX1_tick_7 : decode cX1_tick 7 = .ok (.putfield 43, 3) := by decide +kernel
theorem dX1_tick_10 : decode cX1_tick 10 = .ok (.aload_n 0, 1) := by decide +kernel
theorem dX1_tick_11 : decode cX1_tick 11 = .ok (.getfield 46, 3) := by decide +kernel
theorem dX1_tick_14 : decode cX1_tick 14 = .ok (.ifCond .eq 5, 3) := by decide +kernel
theorem dX1_tick_17 : decode cX1_tick 17 = .ok (.iconst 0, 1) := by decide +kernel
theorem dX1_tick_18 : decode cX1_tick 18 = .ok (.ireturn, 1) := by decide +kernel
theorem dX1_tick_19 : decode cX1_tick 19 = .ok (.aload_n 0, 1) := by decide +kernel
theorem dX1_tick_20 : decode cX1_tick 20 = .ok (.invokevirtual 64, 3) := by decide +kernel
theorem dX1_tick_23 : decode cX1_tick 23 = .ok (.ifCond .ne 5, 3) := by decide +kernel
theorem dX1_tick_26 : decode cX1_tick 26 = .ok (.iconst 0, 1) := by decide +kernel
theorem dX1_tick_27 : decode cX1_tick 27 = .ok (.ireturn, 1) := by decide +kernel
theorem dX1_tick_28 : decode cX1_tick 28 = .ok (.aload_n 0, 1) := by decide +kernel
theorem dX1_tick_29 : decode cX1_tick 29 = .ok (.aload_n 1, 1) := by decide +kernel
theorem dX1_tick_30 : decode cX1_tick 30 = .ok (.getfield 68, 3) := by decide +kernel
theorem dX1_tick_33 : decode cX1_tick 33 = .ok (.getfield 56, 3) := by decide +kernel
theorem dX1_tick_36 : decode cX1_tick 36 = .ok (.invokevirtual 74, 3) := by decide +kernel
theorem dX1_tick_39 : decode cX1_tick 39 = .ok (.istore_n 2, 1) := by decide +kernel
theorem dX1_tick_40 : decode cX1_tick 40 = .ok (.aload_n 0, 1) := by decide +kernel
theorem dX1_tick_41 : decode cX1_tick 41 = .ok (.iconst 0, 1) := by decide +kernel
theorem dX1_tick_42 : decode cX1_tick 42 = .ok (.invokevirtual 78, 3) := by decide +kernel
theorem dX1_tick_45 : decode cX1_tick 45 = .ok (.istore_n 3, 1) := by decide +kernel
theorem dX1_tick_46 : decode cX1_tick 46 = .ok (.iload_n 3, 1) := by decide +kernel
theorem dX1_tick_47 : decode cX1_tick 47 = .ok (.iconst (-1), 1) := by decide +kernel
theorem dX1_tick_48 : decode cX1_tick 48 = .ok (.if_icmp .eq 30, 3) := by decide +kernel
theorem dX1_tick_51 : decode cX1_tick 51 = .ok (.aload_n 0, 1) := by decide +kernel
theorem dX1_tick_52 : decode cX1_tick 52 = .ok (.iconst 0, 1) := by decide +kernel
theorem dX1_tick_53 : decode cX1_tick 53 = .ok (.aload_n 1, 1) := by decide +kernel
theorem dX1_tick_54 : decode cX1_tick 54 = .ok (.getfield 68, 3) := by decide +kernel
theorem dX1_tick_57 : decode cX1_tick 57 = .ok (.invokevirtual 81, 3) := by decide +kernel
theorem dX1_tick_60 : decode cX1_tick 60 = .ok (.iconst (-1), 1) := by decide +kernel
theorem dX1_tick_61 : decode cX1_tick 61 = .ok (.if_icmp .ne 17, 3) := by decide +kernel
theorem dX1_tick_64 : decode cX1_tick 64 = .ok (.aload_n 0, 1) := by decide +kernel
theorem dX1_tick_65 : decode cX1_tick 65 = .ok (.iload_n 3, 1) := by decide +kernel
theorem dX1_tick_66 : decode cX1_tick 66 = .ok (.invokevirtual 85, 3) := by decide +kernel
theorem dX1_tick_69 : decode cX1_tick 69 = .ok (.ifCond .ne 9, 3) := by decide +kernel
theorem dX1_tick_72 : decode cX1_tick 72 = .ok (.aload_n 0, 1) := by decide +kernel
theorem dX1_tick_73 : decode cX1_tick 73 = .ok (.iload_n 3, 1) := by decide +kernel
theorem dX1_tick_74 : decode cX1_tick 74 = .ok (.aload_n 1, 1) := by decide +kernel
theorem dX1_tick_75 : decode cX1_tick 75 = .ok (.invokevirtual 89, 3) := by decide +kernel
theorem dX1_tick_78 : decode cX1_tick 78 = .ok (.iload_n 2, 1) := by decide +kernel
theorem dX1_tick_79 : decode cX1_tick 79 = .ok (.ireturn, 1) := by decide +kernel
theorem dX1_goOn_0 : decode cX1_goOn 0 = .ok (.iconst 0, 1) := by decide +kernel
theorem dX1_goOn_1 : decode cX1_goOn 1 = .ok (.istore_n 2, 1) := by decide +kernel
theorem dX1_goOn_2 : decode cX1_goOn 2 = .ok (.aload_n 0, 1) := by decide +kernel
theorem dX1_goOn_3 : decode cX1_goOn 3 = .ok (.getfield 40, 3) := by decide +kernel
theorem dX1_goOn_6 : decode cX1_goOn 6 = .ok (.istore_n 3, 1) := by decide +kernel
theorem dX1_goOn_7 : decode cX1_goOn 7 = .ok (.iload_n 3, 1) := by decide +kernel
theorem dX1_goOn_8 : decode cX1_goOn 8 = .ok (.aload_n 0, 1) := by decide +kernel
theorem dX1_goOn_9 : decode cX1_goOn 9 = .ok (.getfield 36, 3) := by decide +kernel
theorem dX1_goOn_12 : decode cX1_goOn 12 = .ok (.if_icmp .ge 74, 3) := by decide +kernel
theorem dX1_goOn_15 : decode cX1_goOn 15 = .ok (.aload_n 0, 1) := by decide +kernel
theorem dX1_goOn_16 : decode cX1_goOn 16 = .ok (.getfield 21, 3) := by decide +kernel
theorem dX1_goOn_19 : decode cX1_goOn 19 = .ok (.iload_n 3, 1) := by decide +kernel
theorem dX1_goOn_20 : decode cX1_goOn 20 = .ok (.iaload, 1) := by decide +kernel
theorem dX1_goOn_21 : decode cX1_goOn 21 = .ok (.ifCond .eq 65, 3) := by decide +kernel
theorem dX1_goOn_24 : decode cX1_goOn 24 = .ok (.aload_n 0, 1) := by decide +kernel
theorem dX1_goOn_25 : decode cX1_goOn 25 = .ok (.getfield 21, 3) := by decide +kernel
theorem dX1_goOn_28 : decode cX1_goOn 28 = .ok (.iload_n 3, 1) := by decide +kernel
theorem dX1_goOn_29 : decode cX1_goOn 29 = .ok (.iaload, 1) := by decide +kernel
theorem dX1_goOn_30 : decode cX1_goOn 30 = .ok (.iconst 1, 1) := by decide +kernel
theorem dX1_goOn_31 : decode cX1_goOn 31 = .ok (.if_icmp .eq 6, 3) := by decide +kernel
theorem dX1_goOn_34 : decode cX1_goOn 34 = .ok (.goto 46, 3) := by decide +kernel
theorem dX1_goOn_37 : decode cX1_goOn 37 = .ok (.aload_n 0, 1) := by decide +kernel
theorem dX1_goOn_38 : decode cX1_goOn 38 = .ok (.getfield 24, 3) := by decide +kernel
theorem dX1_goOn_41 : decode cX1_goOn 41 = .ok (.iload_n 3, 1) := by decide +kernel
theorem dX1_goOn_42 : decode cX1_goOn 42 = .ok (.iaload, 1) := by decide +kernel
theorem dX1_goOn_43 : decode cX1_goOn 43 = .ok (.iload_n 1, 1) := by decide +kernel
theorem dX1_goOn_44 : decode cX1_goOn 44 = .ok (.if_icmp .ge 16, 3) := by decide +kernel
theorem dX1_goOn_47 : decode cX1_goOn 47 = .ok (.aload_n 0, 1) := by decide +kernel
theorem dX1_goOn_48 : decode cX1_goOn 48 = .ok (.getfield 24, 3) := by decide +kernel
theorem dX1_goOn_51 : decode cX1_goOn 51 = .ok (.iload_n 3, 1) := by decide +kernel
theorem dX1_goOn_52 : decode cX1_goOn 52 = .ok (.dup2, 1) := by decide +kernel
theorem dX1_goOn_53 : decode cX1_goOn 53 = .ok (.iaload, 1) := by decide +kernel
theorem dX1_goOn_54 : decode cX1_goOn 54 = .ok (.iconst 1, 1) := by decide +kernel
theorem dX1_goOn_55 : decode cX1_goOn 55 = .ok (.iadd, 1) := by decide +kernel
theorem dX1_goOn_56 : decode cX1_goOn 56 = .ok (.iastore, 1) := by decide +kernel
theorem dX1_goOn_57 : decode cX1_goOn 57 = .ok (.goto 23, 3) := by decide +kernel
theorem dX1_goOn_60 : decode cX1_goOn 60 = .ok (.aload_n 0, 1) := by decide +kernel
theorem dX1_goOn_61 : decode cX1_goOn 61 = .ok (.getfield 21, 3) := by decide +kernel
theorem dX1_goOn_64 : decode cX1_goOn 64 = .ok (.iload_n 3, 1) := by decide +kernel
theorem dX1_goOn_65 : decode cX1_goOn 65 = .ok (.iconst 2, 1) := by decide +kernel
theorem dX1_goOn_66 : decode cX1_goOn 66 = .ok (.iastore, 1) := by decide +kernel
theorem dX1_goOn_67 : decode cX1_goOn 67 = .ok (.aload_n 0, 1) := by decide +kernel
theorem dX1_goOn_68 : decode cX1_goOn 68 = .ok (.getfield 33, 3) := by decide +kernel
theorem dX1_goOn_71 : decode cX1_goOn 71 = .ok (.iload_n 3, 1) := by decide +kernel
theorem dX1_goOn_72 : decode cX1_goOn 72 = .ok (.aload_n 0, 1) := by decide +kernel
theorem dX1_goOn_73 : decode cX1_goOn 73 = .ok (.getfield 43, 3) := by decide +kernel
theorem dX1_goOn_76 : decode cX1_goOn 76 = .ok (.iastore, 1) := by decide +kernel
theorem dX1_goOn_77 : decode cX1_goOn 77 = .ok (.iinc 2 1, 3) := by decide +kernel
theorem dX1_goOn_80 : decode cX1_goOn 80 = .ok (.iinc 3 1, 3) := by decide +kernel
theorem dX1_goOn_83 : decode cX1_goOn 83 = .ok (.goto (-76), 3) := by decide +kernel
theorem dX1_goOn_86 : decode cX1_goOn 86 = .ok (.iload_n 2, 1) := by decide +kernel
theorem dX1_goOn_87 : decode cX1_goOn 87 = .ok (.ireturn, 1) := by decide +kernel
theorem dX1_mustWait_0 : decode cX1_mustWait 0 = .ok (.iload_n 1, 1) := by decide +kernel
theorem dX1_mustWait_1 : decode cX1_mustWait 1 = .ok (.iconst 3, 1) := by decide +kernel
theorem dX1_mustWait_2 : decode cX1_mustWait 2 = .ok (.imul, 1) := by decide +kernel
theorem dX1_mustWait_3 : decode cX1_mustWait 3 = .ok (.istore_n 2, 1) := by decide +kernel
theorem dX1_mustWait_4 : decode cX1_mustWait 4 = .ok (.iload_n 2, 1) := by decide +kernel
theorem dX1_mustWait_5 : decode cX1_mustWait 5 = .ok (.iload_n 1, 1) := by decide +kernel
theorem dX1_mustWait_6 : decode cX1_mustWait 6 = .ok (.iconst 1, 1) := by decide +kernel
theorem dX1_mustWait_7 : decode cX1_mustWait 7 = .ok (.iadd, 1) := by decide +kernel
theorem dX1_mustWait_8 : decode cX1_mustWait 8 = .ok (.iconst 3, 1) := by decide +kernel
theorem dX1_mustWait_9 : decode cX1_mustWait 9 = .ok (.imul, 1) := by decide +kernel
theorem dX1_mustWait_10 : decode cX1_mustWait 10 = .ok (.if_icmp .ge 49, 3) := by decide +kernel
theorem dX1_mustWait_13 : decode cX1_mustWait 13 = .ok (.aload_n 0, 1) := by decide +kernel
theorem dX1_mustWait_14 : decode cX1_mustWait 14 = .ok (.getfield 18, 3) := by decide +kernel
theorem dX1_mustWait_17 : decode cX1_mustWait 17 = .ok (.iload_n 2, 1) := by decide +kernel
theorem dX1_mustWait_18 : decode cX1_mustWait 18 = .ok (.iaload, 1) := by decide +kernel
theorem dX1_mustWait_19 : decode cX1_mustWait 19 = .ok (.iconst 1, 1) := by decide +kernel
theorem dX1_mustWait_20 : decode cX1_mustWait 20 = .ok (.ishr, 1) := by decide +kernel
theorem dX1_mustWait_21 : decode cX1_mustWait 21 = .ok (.istore_n 3, 1) := by decide +kernel
theorem dX1_mustWait_22 : decode cX1_mustWait 22 = .ok (.aload_n 0, 1) := by decide +kernel
theorem dX1_mustWait_23 : decode cX1_mustWait 23 = .ok (.getfield 18, 3) := by decide +kernel
theorem dX1_mustWait_26 : decode cX1_mustWait 26 = .ok (.iload_n 2, 1) := by decide +kernel
theorem dX1_mustWait_27 : decode cX1_mustWait 27 = .ok (.iaload, 1) := by decide +kernel
theorem dX1_mustWait_28 : decode cX1_mustWait 28 = .ok (.iconst (-1), 1) := by decide +kernel
theorem dX1_mustWait_29 : decode cX1_mustWait 29 = .ok (.if_icmp .eq 24, 3) := by decide +kernel
theorem dX1_mustWait_32 : decode cX1_mustWait 32 = .ok (.aload_n 0, 1) := by decide +kernel
theorem dX1_mustWait_33 : decode cX1_mustWait 33 = .ok (.getfield 21, 3) := by decide +kernel
theorem dX1_mustWait_36 : decode cX1_mustWait 36 = .ok (.iload_n 3, 1) := by decide +kernel
theorem dX1_mustWait_37 : decode cX1_mustWait 37 = .ok (.iaload, 1) := by decide +kernel
theorem dX1_mustWait_38 : decode cX1_mustWait 38 = .ok (.ifCond .eq 13, 3) := by decide +kernel
theorem dX1_mustWait_41 : decode cX1_mustWait 41 = .ok (.aload_n 0, 1) := by decide +kernel
theorem dX1_mustWait_42 : decode cX1_mustWait 42 = .ok (.getfield 21, 3) := by decide +kernel
theorem dX1_mustWait_45 : decode cX1_mustWait 45 = .ok (.iload_n 3, 1) := by decide +kernel
theorem dX1_mustWait_46 : decode cX1_mustWait 46 = .ok (.iaload, 1) := by decide +kernel
theorem dX1_mustWait_47 : decode cX1_mustWait 47 = .ok (.iconst 1, 1) := by decide +kernel
theorem dX1_mustWait_48 : decode cX1_mustWait 48 = .ok (.if_icmp .ne 5, 3) := by decide +kernel
theorem dX1_mustWait_51 : decode cX1_mustWait 51 = .ok (.iconst 1, 1) := by decide +kernel
theorem dX1_mustWait_52 : decode cX1_mustWait 52 = .ok (.ireturn, 1) := by decide +kernel
theorem dX1_mustWait_53 : decode cX1_mustWait 53 = .ok (.iinc 2 1, 3) := by decide +kernel
theorem dX1_mustWait_56 : decode cX1_mustWait 56 = .ok (.goto (-52), 3) := by decide +kernel
theorem dX1_mustWait_59 : decode cX1_mustWait 59 = .ok (.iconst 0, 1) := by decide +kernel
theorem dX1_mustWait_60 : decode cX1_mustWait 60 = .ok (.ireturn, 1) := by decide +kernel
theorem dX1_bringIn_0 : decode cX1_bringIn 0 = .ok (.iconst 0, 1) := by decide +kernel
theorem dX1_bringIn_1 : decode cX1_bringIn 1 = .ok (.istore_n 3, 1) := by decide +kernel
theorem dX1_bringIn_2 : decode cX1_bringIn 2 = .ok (.iload_n 1, 1) := by decide +kernel
theorem dX1_bringIn_3 : decode cX1_bringIn 3 = .ok (.iconst 3, 1) := by decide +kernel
theorem dX1_bringIn_4 : decode cX1_bringIn 4 = .ok (.imul, 1) := by decide +kernel
theorem dX1_bringIn_5 : decode cX1_bringIn 5 = .ok (.istore 4, 2) := by decide +kernel
theorem dX1_bringIn_7 : decode cX1_bringIn 7 = .ok (.iload 4, 2) := by decide +kernel
theorem dX1_bringIn_9 : decode cX1_bringIn 9 = .ok (.iload_n 1, 1) := by decide +kernel
theorem dX1_bringIn_10 : decode cX1_bringIn 10 = .ok (.iconst 1, 1) := by decide +kernel
theorem dX1_bringIn_11 : decode cX1_bringIn 11 = .ok (.iadd, 1) := by decide +kernel
theorem dX1_bringIn_12 : decode cX1_bringIn 12 = .ok (.iconst 3, 1) := by decide +kernel
theorem dX1_bringIn_13 : decode cX1_bringIn 13 = .ok (.imul, 1) := by decide +kernel
theorem dX1_bringIn_14 : decode cX1_bringIn 14 = .ok (.if_icmp .ge 125, 3) := by decide +kernel
theorem dX1_bringIn_17 : decode cX1_bringIn 17 = .ok (.aload_n 0, 1) := by decide +kernel
theorem dX1_bringIn_18 : decode cX1_bringIn 18 = .ok (.getfield 18, 3) := by decide +kernel
theorem dX1_bringIn_21 : decode cX1_bringIn 21 = .ok (.iload 4, 2) := by decide +kernel
theorem dX1_bringIn_23 : decode cX1_bringIn 23 = .ok (.iaload, 1) := by decide +kernel
theorem dX1_bringIn_24 : decode cX1_bringIn 24 = .ok (.iconst 1, 1) := by decide +kernel
theorem dX1_bringIn_25 : decode cX1_bringIn 25 = .ok (.ishr, 1) := by decide +kernel
theorem dX1_bringIn_26 : decode cX1_bringIn 26 = .ok (.istore 5, 2) := by decide +kernel
theorem dX1_bringIn_28 : decode cX1_bringIn 28 = .ok (.aload_n 0, 1) := by decide +kernel
theorem dX1_bringIn_29 : decode cX1_bringIn 29 = .ok (.getfield 18, 3) := by decide +kernel
theorem dX1_bringIn_32 : decode cX1_bringIn 32 = .ok (.iload 4, 2) := by decide +kernel
theorem dX1_bringIn_34 : decode cX1_bringIn 34 = .ok (.iaload, 1) := by decide +kernel
theorem dX1_bringIn_35 : decode cX1_bringIn 35 = .ok (.iconst (-1), 1) := by decide +kernel
theorem dX1_bringIn_36 : decode cX1_bringIn 36 = .ok (.if_icmp .eq 84, 3) := by decide +kernel
theorem dX1_bringIn_39 : decode cX1_bringIn 39 = .ok (.aload_n 0, 1) := by decide +kernel
theorem dX1_bringIn_40 : decode cX1_bringIn 40 = .ok (.getfield 21, 3) := by decide +kernel
theorem dX1_bringIn_43 : decode cX1_bringIn 43 = .ok (.iload 5, 2) := by decide +kernel
theorem dX1_bringIn_45 : decode cX1_bringIn 45 = .ok (.iaload, 1) := by decide +kernel
theorem dX1_bringIn_46 : decode cX1_bringIn 46 = .ok (.iconst 2, 1) := by decide +kernel
theorem dX1_bringIn_47 : decode cX1_bringIn 47 = .ok (.if_icmp .ne 73, 3) := by decide +kernel
theorem dX1_bringIn_50 : decode cX1_bringIn 50 = .ok (.iload 5, 2) := by decide +kernel
theorem dX1_bringIn_52 : decode cX1_bringIn 52 = .ok (.iconst 3, 1) := by decide +kernel
theorem dX1_bringIn_53 : decode cX1_bringIn 53 = .ok (.imul, 1) := by decide +kernel
theorem dX1_bringIn_54 : decode cX1_bringIn 54 = .ok (.istore 6, 2) := by decide +kernel
theorem dX1_bringIn_56 : decode cX1_bringIn 56 = .ok (.aload_n 2, 1) := by decide +kernel
theorem dX1_bringIn_57 : decode cX1_bringIn 57 = .ok (.aload_n 0, 1) := by decide +kernel
theorem dX1_bringIn_58 : decode cX1_bringIn 58 = .ok (.getfield 9, 3) := by decide +kernel
theorem dX1_bringIn_61 : decode cX1_bringIn 61 = .ok (.iload 5, 2) := by decide +kernel
theorem dX1_bringIn_63 : decode cX1_bringIn 63 = .ok (.iaload, 1) := by decide +kernel
theorem dX1_bringIn_64 : decode cX1_bringIn 64 = .ok (.aload_n 0, 1) := by decide +kernel
theorem dX1_bringIn_65 : decode cX1_bringIn 65 = .ok (.getfield 15, 3) := by decide +kernel
theorem dX1_bringIn_68 : decode cX1_bringIn 68 = .ok (.iload 6, 2) := by decide +kernel
theorem dX1_bringIn_70 : decode cX1_bringIn 70 = .ok (.iaload, 1) := by decide +kernel
theorem dX1_bringIn_71 : decode cX1_bringIn 71 = .ok (.i2l, 1) := by decide +kernel
theorem dX1_bringIn_72 : decode cX1_bringIn 72 = .ok (.aload_n 0, 1) := by decide +kernel
theorem dX1_bringIn_73 : decode cX1_bringIn 73 = .ok (.getfield 15, 3) := by decide +kernel
theorem dX1_bringIn_76 : decode cX1_bringIn 76 = .ok (.iload 6, 2) := by decide +kernel
theorem dX1_bringIn_78 : decode cX1_bringIn 78 = .ok (.iconst 1, 1) := by decide +kernel
theorem dX1_bringIn_79 : decode cX1_bringIn 79 = .ok (.iadd, 1) := by decide +kernel
theorem dX1_bringIn_80 : decode cX1_bringIn 80 = .ok (.iaload, 1) := by decide +kernel
theorem dX1_bringIn_81 : decode cX1_bringIn 81 = .ok (.i2l, 1) := by decide +kernel
theorem dX1_bringIn_82 : decode cX1_bringIn 82 = .ok (.aload_n 0, 1) := by decide +kernel
theorem dX1_bringIn_83 : decode cX1_bringIn 83 = .ok (.getfield 15, 3) := by decide +kernel
theorem dX1_bringIn_86 : decode cX1_bringIn 86 = .ok (.iload 6, 2) := by decide +kernel
theorem dX1_bringIn_88 : decode cX1_bringIn 88 = .ok (.iconst 2, 1) := by decide +kernel
theorem dX1_bringIn_89 : decode cX1_bringIn 89 = .ok (.iadd, 1) := by decide +kernel
theorem dX1_bringIn_90 : decode cX1_bringIn 90 = .ok (.iaload, 1) := by decide +kernel
theorem dX1_bringIn_91 : decode cX1_bringIn 91 = .ok (.i2l, 1) := by decide +kernel
theorem dX1_bringIn_92 : decode cX1_bringIn 92 = .ok (.invokevirtual 93, 3) := by decide +kernel
theorem dX1_bringIn_95 : decode cX1_bringIn 95 = .ok (.pop, 1) := by decide +kernel
theorem dX1_bringIn_96 : decode cX1_bringIn 96 = .ok (.aload_n 0, 1) := by decide +kernel
theorem dX1_bringIn_97 : decode cX1_bringIn 97 = .ok (.getfield 15, 3) := by decide +kernel
theorem dX1_bringIn_100 : decode cX1_bringIn 100 = .ok (.iload 4, 2) := by decide +kernel
theorem dX1_bringIn_102 : decode cX1_bringIn 102 = .ok (.aload_n 2, 1) := by decide +kernel
theorem dX1_bringIn_103 : decode cX1_bringIn 103 = .ok (.aload_n 0, 1) := by decide +kernel
theorem dX1_bringIn_104 : decode cX1_bringIn 104 = .ok (.getfield 18, 3) := by decide +kernel
theorem dX1_bringIn_107 : decode cX1_bringIn 107 = .ok (.iload 4, 2) := by decide +kernel
theorem dX1_bringIn_109 : decode cX1_bringIn 109 = .ok (.iaload, 1) := by decide +kernel
theorem dX1_bringIn_110 : decode cX1_bringIn 110 = .ok (.iconst 1, 1) := by decide +kernel
theorem dX1_bringIn_111 : decode cX1_bringIn 111 = .ok (.iand, 1) := by decide +kernel
theorem dX1_bringIn_112 : decode cX1_bringIn 112 = .ok (.invokevirtual 97, 3) := by decide +kernel
theorem dX1_bringIn_115 : decode cX1_bringIn 115 = .ok (.l2i, 1) := by decide +kernel
theorem dX1_bringIn_116 : decode cX1_bringIn 116 = .ok (.iastore, 1) := by decide +kernel
theorem dX1_bringIn_117 : decode cX1_bringIn 117 = .ok (.goto 16, 3) := by decide +kernel
theorem dX1_bringIn_120 : decode cX1_bringIn 120 = .ok (.aload_n 0, 1) := by decide +kernel
theorem dX1_bringIn_121 : decode cX1_bringIn 121 = .ok (.getfield 18, 3) := by decide +kernel
theorem dX1_bringIn_124 : decode cX1_bringIn 124 = .ok (.iload 4, 2) := by decide +kernel
theorem dX1_bringIn_126 : decode cX1_bringIn 126 = .ok (.iaload, 1) := by decide +kernel
theorem dX1_bringIn_127 : decode cX1_bringIn 127 = .ok (.iconst (-1), 1) := by decide +kernel
theorem dX1_bringIn_128 : decode cX1_bringIn 128 = .ok (.if_icmp .eq 5, 3) := by decide +kernel
theorem dX1_bringIn_131 : decode cX1_bringIn 131 = .ok (.iconst 1, 1) := by decide +kernel
theorem dX1_bringIn_132 : decode cX1_bringIn 132 = .ok (.istore_n 3, 1) := by decide +kernel
theorem dX1_bringIn_133 : decode cX1_bringIn 133 = .ok (.iinc 4 1, 3) := by decide +kernel
theorem dX1_bringIn_136 : decode cX1_bringIn 136 = .ok (.goto (-129), 3) := by decide +kernel
theorem dX1_bringIn_139 : decode cX1_bringIn 139 = .ok (.iload_n 1, 1) := by decide +kernel
theorem dX1_bringIn_140 : decode cX1_bringIn 140 = .ok (.iconst 3, 1) := by decide +kernel
theorem dX1_bringIn_141 : decode cX1_bringIn 141 = .ok (.imul, 1) := by decide +kernel
theorem dX1_bringIn_142 : decode cX1_bringIn 142 = .ok (.istore 4, 2) := by decide +kernel
theorem dX1_bringIn_144 : decode cX1_bringIn 144 = .ok (.iload_n 3, 1) := by decide +kernel
theorem dX1_bringIn_145 : decode cX1_bringIn 145 = .ok (.ifCond .ne 44, 3) := by decide +kernel
theorem dX1_bringIn_148 : decode cX1_bringIn 148 = .ok (.aload_n 2, 1) := by decide +kernel
theorem dX1_bringIn_149 : decode cX1_bringIn 149 = .ok (.aload_n 0, 1) := by decide +kernel
theorem dX1_bringIn_150 : decode cX1_bringIn 150 = .ok (.getfield 9, 3) := by decide +kernel
theorem dX1_bringIn_153 : decode cX1_bringIn 153 = .ok (.iload_n 1, 1) := by decide +kernel
theorem dX1_bringIn_154 : decode cX1_bringIn 154 = .ok (.iaload, 1) := by decide +kernel
theorem dX1_bringIn_155 : decode cX1_bringIn 155 = .ok (.aload_n 0, 1) := by decide +kernel
theorem dX1_bringIn_156 : decode cX1_bringIn 156 = .ok (.getfield 15, 3) := by decide +kernel
theorem dX1_bringIn_159 : decode cX1_bringIn 159 = .ok (.iload 4, 2) := by decide +kernel
theorem dX1_bringIn_161 : decode cX1_bringIn 161 = .ok (.iaload, 1) := by decide +kernel
theorem dX1_bringIn_162 : decode cX1_bringIn 162 = .ok (.i2l, 1) := by decide +kernel
theorem dX1_bringIn_163 : decode cX1_bringIn 163 = .ok (.aload_n 0, 1) := by decide +kernel
theorem dX1_bringIn_164 : decode cX1_bringIn 164 = .ok (.getfield 15, 3) := by decide +kernel
theorem dX1_bringIn_167 : decode cX1_bringIn 167 = .ok (.iload 4, 2) := by decide +kernel
theorem dX1_bringIn_169 : decode cX1_bringIn 169 = .ok (.iconst 1, 1) := by decide +kernel
theorem dX1_bringIn_170 : decode cX1_bringIn 170 = .ok (.iadd, 1) := by decide +kernel
theorem dX1_bringIn_171 : decode cX1_bringIn 171 = .ok (.iaload, 1) := by decide +kernel
theorem dX1_bringIn_172 : decode cX1_bringIn 172 = .ok (.i2l, 1) := by decide +kernel
theorem dX1_bringIn_173 : decode cX1_bringIn 173 = .ok (.aload_n 0, 1) := by decide +kernel
theorem dX1_bringIn_174 : decode cX1_bringIn 174 = .ok (.getfield 15, 3) := by decide +kernel
theorem dX1_bringIn_177 : decode cX1_bringIn 177 = .ok (.iload 4, 2) := by decide +kernel
theorem dX1_bringIn_179 : decode cX1_bringIn 179 = .ok (.iconst 2, 1) := by decide +kernel
theorem dX1_bringIn_180 : decode cX1_bringIn 180 = .ok (.iadd, 1) := by decide +kernel
theorem dX1_bringIn_181 : decode cX1_bringIn 181 = .ok (.iaload, 1) := by decide +kernel
theorem dX1_bringIn_182 : decode cX1_bringIn 182 = .ok (.i2l, 1) := by decide +kernel
theorem dX1_bringIn_183 : decode cX1_bringIn 183 = .ok (.invokevirtual 101, 3) := by decide +kernel
theorem dX1_bringIn_186 : decode cX1_bringIn 186 = .ok (.ifCond .ne 7, 3) := by decide +kernel
theorem dX1_bringIn_189 : decode cX1_bringIn 189 = .ok (.iconst 1, 1) := by decide +kernel
theorem dX1_bringIn_190 : decode cX1_bringIn 190 = .ok (.goto 4, 3) := by decide +kernel
theorem dX1_bringIn_193 : decode cX1_bringIn 193 = .ok (.iconst 0, 1) := by decide +kernel
theorem dX1_bringIn_194 : decode cX1_bringIn 194 = .ok (.istore_n 3, 1) := by decide +kernel
theorem dX1_bringIn_195 : decode cX1_bringIn 195 = .ok (.aload_n 0, 1) := by decide +kernel
theorem dX1_bringIn_196 : decode cX1_bringIn 196 = .ok (.getfield 21, 3) := by decide +kernel
theorem dX1_bringIn_199 : decode cX1_bringIn 199 = .ok (.iload_n 1, 1) := by decide +kernel
theorem dX1_bringIn_200 : decode cX1_bringIn 200 = .ok (.iload_n 3, 1) := by decide +kernel
theorem dX1_bringIn_201 : decode cX1_bringIn 201 = .ok (.ifCond .eq 7, 3) := by decide +kernel
theorem dX1_bringIn_204 : decode cX1_bringIn 204 = .ok (.iconst 3, 1) := by decide +kernel
theorem dX1_bringIn_205 : decode cX1_bringIn 205 = .ok (.goto 4, 3) := by decide +kernel
theorem dX1_bringIn_208 : decode cX1_bringIn 208 = .ok (.iconst 1, 1) := by decide +kernel
theorem dX1_bringIn_209 : decode cX1_bringIn 209 = .ok (.iastore, 1) := by decide +kernel
theorem dX1_bringIn_210 : decode cX1_bringIn 210 = .ok (.aload_n 0, 1) := by decide +kernel
theorem dX1_bringIn_211 : decode cX1_bringIn 211 = .ok (.getfield 30, 3) := by decide +kernel
theorem dX1_bringIn_214 : decode cX1_bringIn 214 = .ok (.iload_n 1, 1) := by decide +kernel
theorem dX1_bringIn_215 : decode cX1_bringIn 215 = .ok (.aload_n 0, 1) := by decide +kernel
theorem dX1_bringIn_216 : decode cX1_bringIn 216 = .ok (.getfield 43, 3) := by decide +kernel
theorem dX1_bringIn_219 : decode cX1_bringIn 219 = .ok (.iastore, 1) := by decide +kernel
theorem dX1_bringIn_220 : decode cX1_bringIn 220 = .ok (.return_, 1) := by decide +kernel
theorem dX1_turnAgain_0 : decode cX1_turnAgain 0 = .ok (.iload_n 1, 1) := by decide +kernel
theorem dX1_turnAgain_1 : decode cX1_turnAgain 1 = .ok (.iconst 3, 1) := by decide +kernel
theorem dX1_turnAgain_2 : decode cX1_turnAgain 2 = .ok (.imul, 1) := by decide +kernel
theorem dX1_turnAgain_3 : decode cX1_turnAgain 3 = .ok (.istore 4, 2) := by decide +kernel
theorem dX1_turnAgain_5 : decode cX1_turnAgain 5 = .ok (.aload_n 2, 1) := by decide +kernel
theorem dX1_turnAgain_6 : decode cX1_turnAgain 6 = .ok (.aload_n 0, 1) := by decide +kernel
theorem dX1_turnAgain_7 : decode cX1_turnAgain 7 = .ok (.getfield 9, 3) := by decide +kernel
theorem dX1_turnAgain_10 : decode cX1_turnAgain 10 = .ok (.iload_n 1, 1) := by decide +kernel
theorem dX1_turnAgain_11 : decode cX1_turnAgain 11 = .ok (.iaload, 1) := by decide +kernel
theorem dX1_turnAgain_12 : decode cX1_turnAgain 12 = .ok (.aload_n 0, 1) := by decide +kernel
theorem dX1_turnAgain_13 : decode cX1_turnAgain 13 = .ok (.getfield 15, 3) := by decide +kernel
theorem dX1_turnAgain_16 : decode cX1_turnAgain 16 = .ok (.iload 4, 2) := by decide +kernel
theorem dX1_turnAgain_18 : decode cX1_turnAgain 18 = .ok (.iaload, 1) := by decide +kernel
theorem dX1_turnAgain_19 : decode cX1_turnAgain 19 = .ok (.i2l, 1) := by decide +kernel
theorem dX1_turnAgain_20 : decode cX1_turnAgain 20 = .ok (.aload_n 0, 1) := by decide +kernel
theorem dX1_turnAgain_21 : decode cX1_turnAgain 21 = .ok (.getfield 15, 3) := by decide +kernel
theorem dX1_turnAgain_24 : decode cX1_turnAgain 24 = .ok (.iload 4, 2) := by decide +kernel
theorem dX1_turnAgain_26 : decode cX1_turnAgain 26 = .ok (.iconst 1, 1) := by decide +kernel
theorem dX1_turnAgain_27 : decode cX1_turnAgain 27 = .ok (.iadd, 1) := by decide +kernel
theorem dX1_turnAgain_28 : decode cX1_turnAgain 28 = .ok (.iaload, 1) := by decide +kernel
theorem dX1_turnAgain_29 : decode cX1_turnAgain 29 = .ok (.i2l, 1) := by decide +kernel
theorem dX1_turnAgain_30 : decode cX1_turnAgain 30 = .ok (.aload_n 0, 1) := by decide +kernel
theorem dX1_turnAgain_31 : decode cX1_turnAgain 31 = .ok (.getfield 15, 3) := by decide +kernel
theorem dX1_turnAgain_34 : decode cX1_turnAgain 34 = .ok (.iload 4, 2) := by decide +kernel
theorem dX1_turnAgain_36 : decode cX1_turnAgain 36 = .ok (.iconst 2, 1) := by decide +kernel
theorem dX1_turnAgain_37 : decode cX1_turnAgain 37 = .ok (.iadd, 1) := by decide +kernel
theorem dX1_turnAgain_38 : decode cX1_turnAgain 38 = .ok (.iaload, 1) := by decide +kernel
theorem dX1_turnAgain_39 : decode cX1_turnAgain 39 = .ok (.i2l, 1) := by decide +kernel
theorem dX1_turnAgain_40 : decode cX1_turnAgain 40 = .ok (.invokevirtual 104, 3) := by decide +kernel
theorem dX1_turnAgain_43 : decode cX1_turnAgain 43 = .ok (.aload_n 2, 1) := by decide +kernel
theorem dX1_turnAgain_44 : decode cX1_turnAgain 44 = .ok (.aload_n 0, 1) := by decide +kernel
theorem dX1_turnAgain_45 : decode cX1_turnAgain 45 = .ok (.getfield 9, 3) := by decide +kernel
theorem dX1_turnAgain_48 : decode cX1_turnAgain 48 = .ok (.iload_n 1, 1) := by decide +kernel
theorem dX1_turnAgain_49 : decode cX1_turnAgain 49 = .ok (.iaload, 1) := by decide +kernel
theorem dX1_turnAgain_50 : decode cX1_turnAgain 50 = .ok (.iload_n 3, 1) := by decide +kernel
theorem dX1_turnAgain_51 : decode cX1_turnAgain 51 = .ok (.invokevirtual 108, 3) := by decide +kernel
theorem dX1_turnAgain_54 : decode cX1_turnAgain 54 = .ok (.return_, 1) := by decide +kernel
theorem dX1_greatestLeft_0 : decode cX1_greatestLeft 0 = .ok (.lconst 0, 1) := by decide +kernel
theorem dX1_greatestLeft_1 : decode cX1_greatestLeft 1 = .ok (.lstore_n 3, 1) := by decide +kernel
theorem dX1_greatestLeft_2 : decode cX1_greatestLeft 2 = .ok (.iconst 0, 1) := by decide +kernel
theorem dX1_greatestLeft_3 : decode cX1_greatestLeft 3 = .ok (.istore 5, 2) := by decide +kernel
theorem dX1_greatestLeft_5 : decode cX1_greatestLeft 5 = .ok (.iload 5, 2) := by decide +kernel
theorem dX1_greatestLeft_7 : decode cX1_greatestLeft 7 = .ok (.aload_n 0, 1) := by decide +kernel
theorem dX1_greatestLeft_8 : decode cX1_greatestLeft 8 = .ok (.getfield 36, 3) := by decide +kernel
theorem dX1_greatestLeft_11 : decode cX1_greatestLeft 11 = .ok (.if_icmp .ge 75, 3) := by decide +kernel
theorem dX1_greatestLeft_14 : decode cX1_greatestLeft 14 = .ok (.aload_n 0, 1) := by decide +kernel
theorem dX1_greatestLeft_15 : decode cX1_greatestLeft 15 = .ok (.getfield 21, 3) := by decide +kernel
theorem dX1_greatestLeft_18 : decode cX1_greatestLeft 18 = .ok (.iload 5, 2) := by decide +kernel
theorem dX1_greatestLeft_20 : decode cX1_greatestLeft 20 = .ok (.iaload, 1) := by decide +kernel
theorem dX1_greatestLeft_21 : decode cX1_greatestLeft 21 = .ok (.iconst 2, 1) := by decide +kernel
theorem dX1_greatestLeft_22 : decode cX1_greatestLeft 22 = .ok (.if_icmp .ne 58, 3) := by decide +kernel
theorem dX1_greatestLeft_25 : decode cX1_greatestLeft 25 = .ok (.getstatic 112, 3) := by decide +kernel
theorem dX1_greatestLeft_28 : decode cX1_greatestLeft 28 = .ok (.aload_n 0, 1) := by decide +kernel
theorem dX1_greatestLeft_29 : decode cX1_greatestLeft 29 = .ok (.getfield 9, 3) := by decide +kernel
theorem dX1_greatestLeft_32 : decode cX1_greatestLeft 32 = .ok (.iload 5, 2) := by decide +kernel
theorem dX1_greatestLeft_34 : decode cX1_greatestLeft 34 = .ok (.iaload, 1) := by decide +kernel
theorem dX1_greatestLeft_35 : decode cX1_greatestLeft 35 = .ok (.aaload, 1) := by decide +kernel
theorem dX1_greatestLeft_36 : decode cX1_greatestLeft 36 = .ok (.getfield 116, 3) := by decide +kernel
theorem dX1_greatestLeft_39 : decode cX1_greatestLeft 39 = .ok (.iload_n 2, 1) := by decide +kernel
theorem dX1_greatestLeft_40 : decode cX1_greatestLeft 40 = .ok (.if_icmp .ne 40, 3) := by decide +kernel
theorem dX1_greatestLeft_43 : decode cX1_greatestLeft 43 = .ok (.aload_n 0, 1) := by decide +kernel
theorem dX1_greatestLeft_44 : decode cX1_greatestLeft 44 = .ok (.iload 5, 2) := by decide +kernel
theorem dX1_greatestLeft_46 : decode cX1_greatestLeft 46 = .ok (.aload_n 1, 1) := by decide +kernel
theorem dX1_greatestLeft_47 : decode cX1_greatestLeft 47 = .ok (.aload_n 1, 1) := by decide +kernel
theorem dX1_greatestLeft_48 : decode cX1_greatestLeft 48 = .ok (.getfield 68, 3) := by decide +kernel
theorem dX1_greatestLeft_51 : decode cX1_greatestLeft 51 = .ok (.getfield 56, 3) := by decide +kernel
theorem dX1_greatestLeft_54 : decode cX1_greatestLeft 54 = .ok (.invokevirtual 121, 3) := by decide +kernel
theorem dX1_greatestLeft_57 : decode cX1_greatestLeft 57 = .ok (.lload_n 3, 1) := by decide +kernel
theorem dX1_greatestLeft_58 : decode cX1_greatestLeft 58 = .ok (.iload_n 2, 1) := by decide +kernel
theorem dX1_greatestLeft_59 : decode cX1_greatestLeft 59 = .ok (.ifCond .eq 10, 3) := by decide +kernel
theorem dX1_greatestLeft_62 : decode cX1_greatestLeft 62 = .ok (.aload_n 1, 1) := by decide +kernel
theorem dX1_greatestLeft_63 : decode cX1_greatestLeft 63 = .ok (.getfield 125, 3) := by decide +kernel
theorem dX1_greatestLeft_66 : decode cX1_greatestLeft 66 = .ok (.goto 7, 3) := by decide +kernel
theorem dX1_greatestLeft_69 : decode cX1_greatestLeft 69 = .ok (.aload_n 1, 1) := by decide +kernel
theorem dX1_greatestLeft_70 : decode cX1_greatestLeft 70 = .ok (.getfield 129, 3) := by decide +kernel
theorem dX1_greatestLeft_73 : decode cX1_greatestLeft 73 = .ok (.invokestatic 132, 3) := by decide +kernel
theorem dX1_greatestLeft_76 : decode cX1_greatestLeft 76 = .ok (.invokestatic 138, 3) := by decide +kernel
theorem dX1_greatestLeft_79 : decode cX1_greatestLeft 79 = .ok (.lstore_n 3, 1) := by decide +kernel
theorem dX1_greatestLeft_80 : decode cX1_greatestLeft 80 = .ok (.iinc 5 1, 3) := by decide +kernel
theorem dX1_greatestLeft_83 : decode cX1_greatestLeft 83 = .ok (.goto (-78), 3) := by decide +kernel
theorem dX1_greatestLeft_86 : decode cX1_greatestLeft 86 = .ok (.lload_n 3, 1) := by decide +kernel
theorem dX1_greatestLeft_87 : decode cX1_greatestLeft 87 = .ok (.lreturn, 1) := by decide +kernel
theorem dX1_longestWay_0 : decode cX1_longestWay 0 = .ok (.lconst 0, 1) := by decide +kernel
theorem dX1_longestWay_1 : decode cX1_longestWay 1 = .ok (.lstore_n 1, 1) := by decide +kernel
theorem dX1_longestWay_2 : decode cX1_longestWay 2 = .ok (.iconst 0, 1) := by decide +kernel
theorem dX1_longestWay_3 : decode cX1_longestWay 3 = .ok (.istore_n 3, 1) := by decide +kernel
theorem dX1_longestWay_4 : decode cX1_longestWay 4 = .ok (.iload_n 3, 1) := by decide +kernel
theorem dX1_longestWay_5 : decode cX1_longestWay 5 = .ok (.aload_n 0, 1) := by decide +kernel
theorem dX1_longestWay_6 : decode cX1_longestWay 6 = .ok (.getfield 36, 3) := by decide +kernel
theorem dX1_longestWay_9 : decode cX1_longestWay 9 = .ok (.if_icmp .ge 38, 3) := by decide +kernel
theorem dX1_longestWay_12 : decode cX1_longestWay 12 = .ok (.aload_n 0, 1) := by decide +kernel
theorem dX1_longestWay_13 : decode cX1_longestWay 13 = .ok (.getfield 21, 3) := by decide +kernel
theorem dX1_longestWay_16 : decode cX1_longestWay 16 = .ok (.iload_n 3, 1) := by decide +kernel
theorem dX1_longestWay_17 : decode cX1_longestWay 17 = .ok (.iaload, 1) := by decide +kernel
theorem dX1_longestWay_18 : decode cX1_longestWay 18 = .ok (.iconst 2, 1) := by decide +kernel
theorem dX1_longestWay_19 : decode cX1_longestWay 19 = .ok (.if_icmp .ne 22, 3) := by decide +kernel
theorem dX1_longestWay_22 : decode cX1_longestWay 22 = .ok (.lload_n 1, 1) := by decide +kernel
theorem dX1_longestWay_23 : decode cX1_longestWay 23 = .ok (.aload_n 0, 1) := by decide +kernel
theorem dX1_longestWay_24 : decode cX1_longestWay 24 = .ok (.getfield 33, 3) := by decide +kernel
theorem dX1_longestWay_27 : decode cX1_longestWay 27 = .ok (.iload_n 3, 1) := by decide +kernel
theorem dX1_longestWay_28 : decode cX1_longestWay 28 = .ok (.iaload, 1) := by decide +kernel
theorem dX1_longestWay_29 : decode cX1_longestWay 29 = .ok (.aload_n 0, 1) := by decide +kernel
theorem dX1_longestWay_30 : decode cX1_longestWay 30 = .ok (.getfield 27, 3) := by decide +kernel
theorem dX1_longestWay_33 : decode cX1_longestWay 33 = .ok (.iload_n 3, 1) := by decide +kernel
theorem dX1_longestWay_34 : decode cX1_longestWay 34 = .ok (.iaload, 1) := by decide +kernel
theorem dX1_longestWay_35 : decode cX1_longestWay 35 = .ok (.isub, 1) := by decide +kernel
theorem dX1_longestWay_36 : decode cX1_longestWay 36 = .ok (.i2l, 1) := by decide +kernel
theorem dX1_longestWay_37 : decode cX1_longestWay 37 = .ok (.invokestatic 138, 3) := by decide +kernel
theorem dX1_longestWay_40 : decode cX1_longestWay 40 = .ok (.lstore_n 1, 1) := by decide +kernel
theorem dX1_longestWay_41 : decode cX1_longestWay 41 = .ok (.iinc 3 1, 3) := by decide +kernel
theorem dX1_longestWay_44 : decode cX1_longestWay 44 = .ok (.goto (-40), 3) := by decide +kernel
theorem dX1_longestWay_47 : decode cX1_longestWay 47 = .ok (.lload_n 1, 1) := by decide +kernel
theorem dX1_longestWay_48 : decode cX1_longestWay 48 = .ok (.lreturn, 1) := by decide +kernel
theorem dX1_sumsMade_0 : decode cX1_sumsMade 0 = .ok (.lconst 0, 1) := by decide +kernel
theorem dX1_sumsMade_1 : decode cX1_sumsMade 1 = .ok (.lstore_n 2, 1) := by decide +kernel
theorem dX1_sumsMade_2 : decode cX1_sumsMade 2 = .ok (.iconst 0, 1) := by decide +kernel
theorem dX1_sumsMade_3 : decode cX1_sumsMade 3 = .ok (.istore 4, 2) := by decide +kernel
theorem dX1_sumsMade_5 : decode cX1_sumsMade 5 = .ok (.iload 4, 2) := by decide +kernel
theorem dX1_sumsMade_7 : decode cX1_sumsMade 7 = .ok (.aload_n 0, 1) := by decide +kernel
theorem dX1_sumsMade_8 : decode cX1_sumsMade 8 = .ok (.getfield 36, 3) := by decide +kernel
theorem dX1_sumsMade_11 : decode cX1_sumsMade 11 = .ok (.if_icmp .ge 50, 3) := by decide +kernel
theorem dX1_sumsMade_14 : decode cX1_sumsMade 14 = .ok (.aload_n 0, 1) := by decide +kernel
theorem dX1_sumsMade_15 : decode cX1_sumsMade 15 = .ok (.getfield 21, 3) := by decide +kernel
theorem dX1_sumsMade_18 : decode cX1_sumsMade 18 = .ok (.iload 4, 2) := by decide +kernel
theorem dX1_sumsMade_20 : decode cX1_sumsMade 20 = .ok (.iaload, 1) := by decide +kernel
theorem dX1_sumsMade_21 : decode cX1_sumsMade 21 = .ok (.iconst 2, 1) := by decide +kernel
theorem dX1_sumsMade_22 : decode cX1_sumsMade 22 = .ok (.if_icmp .ne 33, 3) := by decide +kernel
theorem dX1_sumsMade_25 : decode cX1_sumsMade 25 = .ok (.lload_n 2, 1) := by decide +kernel
theorem dX1_sumsMade_26 : decode cX1_sumsMade 26 = .ok (.iload_n 1, 1) := by decide +kernel
theorem dX1_sumsMade_27 : decode cX1_sumsMade 27 = .ok (.i2l, 1) := by decide +kernel
theorem dX1_sumsMade_28 : decode cX1_sumsMade 28 = .ok (.getstatic 112, 3) := by decide +kernel
theorem dX1_sumsMade_31 : decode cX1_sumsMade 31 = .ok (.aload_n 0, 1) := by decide +kernel
theorem dX1_sumsMade_32 : decode cX1_sumsMade 32 = .ok (.getfield 9, 3) := by decide +kernel
theorem dX1_sumsMade_35 : decode cX1_sumsMade 35 = .ok (.iload 4, 2) := by decide +kernel
theorem dX1_sumsMade_37 : decode cX1_sumsMade 37 = .ok (.iaload, 1) := by decide +kernel
theorem dX1_sumsMade_38 : decode cX1_sumsMade 38 = .ok (.aaload, 1) := by decide +kernel
theorem dX1_sumsMade_39 : decode cX1_sumsMade 39 = .ok (.getfield 142, 3) := by decide +kernel
theorem dX1_sumsMade_42 : decode cX1_sumsMade 42 = .ok (.iconst 1, 1) := by decide +kernel
theorem dX1_sumsMade_43 : decode cX1_sumsMade 43 = .ok (.if_icmp .ne 7, 3) := by decide +kernel
theorem dX1_sumsMade_46 : decode cX1_sumsMade 46 = .ok (.iconst 2, 1) := by decide +kernel
theorem dX1_sumsMade_47 : decode cX1_sumsMade 47 = .ok (.goto 4, 3) := by decide +kernel
theorem dX1_sumsMade_50 : decode cX1_sumsMade 50 = .ok (.iconst 3, 1) := by decide +kernel
theorem dX1_sumsMade_51 : decode cX1_sumsMade 51 = .ok (.i2l, 1) := by decide +kernel
theorem dX1_sumsMade_52 : decode cX1_sumsMade 52 = .ok (.lmul, 1) := by decide +kernel
theorem dX1_sumsMade_53 : decode cX1_sumsMade 53 = .ok (.ladd, 1) := by decide +kernel
theorem dX1_sumsMade_54 : decode cX1_sumsMade 54 = .ok (.lstore_n 2, 1) := by decide +kernel
theorem dX1_sumsMade_55 : decode cX1_sumsMade 55 = .ok (.iinc 4 1, 3) := by decide +kernel
theorem dX1_sumsMade_58 : decode cX1_sumsMade 58 = .ok (.goto (-53), 3) := by decide +kernel
theorem dX1_sumsMade_61 : decode cX1_sumsMade 61 = .ok (.lload_n 2, 1) := by decide +kernel
theorem dX1_sumsMade_62 : decode cX1_sumsMade 62 = .ok (.lreturn, 1) := by decide +kernel
theorem dX3_init_0 : decode cX3_init 0 = .ok (.aload_n 0, 1) := by decide +kernel
theorem dX3_init_1 : decode cX3_init 1 = .ok (.invokespecial 3, 3) := by decide +kernel
theorem dX3_init_4 : decode cX3_init 4 = .ok (.aload_n 0, 1) := by decide +kernel
theorem dX3_init_5 : decode cX3_init 5 = .ok (.bipush 60, 2) := by decide +kernel
theorem dX3_init_7 : decode cX3_init 7 = .ok (.newarray .int, 2) := by decide +kernel
theorem dX3_init_9 : decode cX3_init 9 = .ok (.putfield 9, 3) := by decide +kernel
theorem dX3_init_12 : decode cX3_init 12 = .ok (.aload_n 0, 1) := by decide +kernel
theorem dX3_init_13 : decode cX3_init 13 = .ok (.sipush 180, 3) := by decide +kernel
theorem dX3_init_16 : decode cX3_init 16 = .ok (.newarray .int, 2) := by decide +kernel
theorem dX3_init_18 : decode cX3_init 18 = .ok (.putfield 15, 3) := by decide +kernel
theorem dX3_init_21 : decode cX3_init 21 = .ok (.aload_n 0, 1) := by decide +kernel
theorem dX3_init_22 : decode cX3_init 22 = .ok (.sipush 180, 3) := by decide +kernel
theorem dX3_init_25 : decode cX3_init 25 = .ok (.newarray .int, 2) := by decide +kernel
theorem dX3_init_27 : decode cX3_init 27 = .ok (.putfield 18, 3) := by decide +kernel
theorem dX3_init_30 : decode cX3_init 30 = .ok (.aload_n 0, 1) := by decide +kernel
theorem dX3_init_31 : decode cX3_init 31 = .ok (.new 21, 3) := by decide +kernel
theorem dX3_init_34 : decode cX3_init 34 = .ok (.dup, 1) := by decide +kernel
theorem dX3_init_35 : decode cX3_init 35 = .ok (.aload_n 1, 1) := by decide +kernel
theorem dX3_init_36 : decode cX3_init 36 = .ok (.invokespecial 23, 3) := by decide +kernel
theorem dX3_init_39 : decode cX3_init 39 = .ok (.putfield 26, 3) := by decide +kernel
theorem dX3_init_42 : decode cX3_init 42 = .ok (.return_, 1) := by decide +kernel
theorem dX3_read_0 : decode cX3_read 0 = .ok (.aload_n 0, 1) := by decide +kernel
theorem dX3_read_1 : decode cX3_read 1 = .ok (.getfield 26, 3) := by decide +kernel
theorem dX3_read_4 : decode cX3_read 4 = .ok (.iconst 0, 1) := by decide +kernel
theorem dX3_read_5 : decode cX3_read 5 = .ok (.putfield 30, 3) := by decide +kernel
theorem dX3_read_8 : decode cX3_read 8 = .ok (.aload_n 0, 1) := by decide +kernel
theorem dX3_read_9 : decode cX3_read 9 = .ok (.iconst 0, 1) := by decide +kernel
theorem dX3_read_10 : decode cX3_read 10 = .ok (.putfield 34, 3) := by decide +kernel
theorem dX3_read_13 : decode cX3_read 13 = .ok (.iconst 0, 1) := by decide +kernel
theorem dX3_read_14 : decode cX3_read 14 = .ok (.istore_n 1, 1) := by decide +kernel
theorem dX3_read_15 : decode cX3_read 15 = .ok (.iload_n 1, 1) := by decide +kernel
theorem dX3_read_16 : decode cX3_read 16 = .ok (.bipush 60, 2) := by decide +kernel
theorem dX3_read_18 : decode cX3_read 18 = .ok (.if_icmp .ge 81, 3) := by decide +kernel
theorem dX3_read_21 : decode cX3_read 21 = .ok (.aload_n 0, 1) := by decide +kernel
theorem dX3_read_22 : decode cX3_read 22 = .ok (.iload_n 1, 1) := by decide +kernel
theorem dX3_read_23 : decode cX3_read 23 = .ok (.invokevirtual 37, 3) := by decide +kernel
theorem dX3_read_26 : decode cX3_read 26 = .ok (.istore_n 2, 1) := by decide +kernel
theorem dX3_read_27 : decode cX3_read 27 = .ok (.iload_n 2, 1) := by decide +kernel
theorem dX3_read_28 : decode cX3_read 28 = .ok (.iconst (-1), 1) := by decide +kernel
theorem dX3_read_29 : decode cX3_read 29 = .ok (.if_icmp .eq 5, 3) := by decide +kernel
theorem dX3_read_32 : decode cX3_read 32 = .ok (.iload_n 2, 1) := by decide +kernel
theorem dX3_read_33 : decode cX3_read 33 = .ok (.ireturn, 1) := by decide +kernel
theorem dX3_read_34 : decode cX3_read 34 = .ok (.aload_n 0, 1) := by decide +kernel
theorem dX3_read_35 : decode cX3_read 35 = .ok (.iload_n 1, 1) := by decide +kernel
theorem dX3_read_36 : decode cX3_read 36 = .ok (.iconst 1, 1) := by decide +kernel
theorem dX3_read_37 : decode cX3_read 37 = .ok (.iadd, 1) := by decide +kernel
theorem dX3_read_38 : decode cX3_read 38 = .ok (.putfield 34, 3) := by decide +kernel
theorem dX3_read_41 : decode cX3_read 41 = .ok (.aload_n 0, 1) := by decide +kernel
theorem dX3_read_42 : decode cX3_read 42 = .ok (.getfield 26, 3) := by decide +kernel
theorem dX3_read_45 : decode cX3_read 45 = .ok (.invokevirtual 41, 3) := by decide +kernel
theorem dX3_read_48 : decode cX3_read 48 = .ok (.aload_n 0, 1) := by decide +kernel
theorem dX3_read_49 : decode cX3_read 49 = .ok (.getfield 26, 3) := by decide +kernel
theorem dX3_read_52 : decode cX3_read 52 = .ok (.invokevirtual 44, 3) := by decide +kernel
theorem dX3_read_55 : decode cX3_read 55 = .ok (.ifCond .eq 5, 3) := by decide +kernel
theorem dX3_read_58 : decode cX3_read 58 = .ok (.iconst (-1), 1) := by decide +kernel
theorem dX3_read_59 : decode cX3_read 59 = .ok (.ireturn, 1) := by decide +kernel
theorem dX3_read_60 : decode cX3_read 60 = .ok (.aload_n 0, 1) := by decide +kernel
theorem dX3_read_61 : decode cX3_read 61 = .ok (.getfield 26, 3) := by decide +kernel
theorem dX3_read_64 : decode cX3_read 64 = .ok (.invokevirtual 48, 3) := by decide +kernel
theorem dX3_read_67 : decode cX3_read 67 = .ok (.bipush 59, 2) := by decide +kernel
theorem dX3_read_69 : decode cX3_read 69 = .ok (.if_icmp .eq 11, 3) := by decide +kernel
theorem dX3_read_72 : decode cX3_read 72 = .ok (.aload_n 0, 1) := by decide +kernel
theorem dX3_read_73 : decode cX3_read 73 = .ok (.getfield 26, 3) := by decide +kernel
theorem dX3_read_76 : decode cX3_read 76 = .ok (.getfield 30, 3) := by decide +kernel
theorem dX3_read_79 : decode cX3_read 79 = .ok (.ireturn, 1) := by decide +kernel
theorem dX3_read_80 : decode cX3_read 80 = .ok (.aload_n 0, 1) := by decide +kernel
theorem dX3_read_81 : decode cX3_read 81 = .ok (.getfield 26, 3) := by decide +kernel
theorem dX3_read_84 : decode cX3_read 84 = .ok (.dup, 1) := by decide +kernel
theorem dX3_read_85 : decode cX3_read 85 = .ok (.getfield 30, 3) := by decide +kernel
theorem dX3_read_88 : decode cX3_read 88 = .ok (.iconst 1, 1) := by decide +kernel
theorem dX3_read_89 : decode cX3_read 89 = .ok (.iadd, 1) := by decide +kernel
theorem dX3_read_90 : decode cX3_read 90 = .ok (.putfield 30, 3) := by decide +kernel
theorem dX3_read_93 : decode cX3_read 93 = .ok (.iinc 1 1, 3) := by decide +kernel
theorem dX3_read_96 : decode cX3_read 96 = .ok (.goto (-81), 3) := by decide +kernel
theorem dX3_read_99 : decode cX3_read 99 = .ok (.aload_n 0, 1) := by decide +kernel
theorem dX3_read_100 : decode cX3_read 100 = .ok (.getfield 26, 3) := by decide +kernel
theorem dX3_read_103 : decode cX3_read 103 = .ok (.invokevirtual 41, 3) := by decide +kernel
theorem dX3_read_106 : decode cX3_read 106 = .ok (.aload_n 0, 1) := by decide +kernel
theorem dX3_read_107 : decode cX3_read 107 = .ok (.getfield 26, 3) := by decide +kernel
theorem dX3_read_110 : decode cX3_read 110 = .ok (.getfield 30, 3) := by decide +kernel
theorem dX3_read_113 : decode cX3_read 113 = .ok (.ireturn, 1) := by decide +kernel
theorem dX3_isTied_0 : decode cX3_isTied 0 = .ok (.iload_n 1, 1) := by decide +kernel
theorem dX3_isTied_1 : decode cX3_isTied 1 = .ok (.iconst 3, 1) := by decide +kernel
theorem dX3_isTied_2 : decode cX3_isTied 2 = .ok (.imul, 1) := by decide +kernel
theorem dX3_isTied_3 : decode cX3_isTied 3 = .ok (.istore_n 2, 1) := by decide +kernel
theorem dX3_isTied_4 : decode cX3_isTied 4 = .ok (.aload_n 0, 1) := by decide +kernel
theorem dX3_isTied_5 : decode cX3_isTied 5 = .ok (.getfield 18, 3) := by decide +kernel
theorem dX3_isTied_8 : decode cX3_isTied 8 = .ok (.iload_n 2, 1) := by decide +kernel
theorem dX3_isTied_9 : decode cX3_isTied 9 = .ok (.iaload, 1) := by decide +kernel
theorem dX3_isTied_10 : decode cX3_isTied 10 = .ok (.iconst (-1), 1) := by decide +kernel
theorem dX3_isTied_11 : decode cX3_isTied 11 = .ok (.if_icmp .ne 27, 3) := by decide +kernel
theorem dX3_isTied_14 : decode cX3_isTied 14 = .ok (.aload_n 0, 1) := by decide +kernel
theorem dX3_isTied_15 : decode cX3_isTied 15 = .ok (.getfield 18, 3) := by decide +kernel
theorem dX3_isTied_18 : decode cX3_isTied 18 = .ok (.iload_n 2, 1) := by decide +kernel
theorem dX3_isTied_19 : decode cX3_isTied 19 = .ok (.iconst 1, 1) := by decide +kernel
theorem dX3_isTied_20 : decode cX3_isTied 20 = .ok (.iadd, 1) := by decide +kernel
theorem dX3_isTied_21 : decode cX3_isTied 21 = .ok (.iaload, 1) := by decide +kernel
theorem dX3_isTied_22 : decode cX3_isTied 22 = .ok (.iconst (-1), 1) := by decide +kernel
theorem dX3_isTied_23 : decode cX3_isTied 23 = .ok (.if_icmp .ne 15, 3) := by decide +kernel
theorem dX3_isTied_26 : decode cX3_isTied 26 = .ok (.aload_n 0, 1) := by decide +kernel
theorem dX3_isTied_27 : decode cX3_isTied 27 = .ok (.getfield 18, 3) := by decide +kernel
theorem dX3_isTied_30 : decode cX3_isTied 30 = .ok (.iload_n 2, 1) := by decide +kernel
theorem dX3_isTied_31 : decode cX3_isTied 31 = .ok (.iconst 2, 1) := by decide +kernel
theorem dX3_isTied_32 : decode cX3_isTied 32 = .ok (.iadd, 1) := by decide +kernel
theorem dX3_isTied_33 : decode cX3_isTied 33 = .ok (.iaload, 1) := by decide +kernel
theorem dX3_isTied_34 : decode cX3_isTied 34 = .ok (.iconst (-1), 1) := by decide +kernel
theorem dX3_isTied_35 : decode cX3_isTied 35 = .ok (.if_icmp .eq 7, 3) := by decide +kernel
theorem dX3_isTied_38 : decode cX3_isTied 38 = .ok (.iconst 1, 1) := by decide +kernel
theorem dX3_isTied_39 : decode cX3_isTied 39 = .ok (.goto 4, 3) := by decide +kernel
theorem dX3_isTied_42 : decode cX3_isTied 42 = .ok (.iconst 0, 1) := by decide +kernel
theorem dX3_isTied_43 : decode cX3_isTied 43 = .ok (.ireturn, 1) := by decide +kernel
theorem dX3_readLine_0 : decode cX3_readLine 0 = .ok (.iload_n 1, 1) := by decide +kernel
theorem dX3_readLine_1 : decode cX3_readLine 1 = .ok (.iconst 3, 1) := by decide +kernel
theorem dX3_readLine_2 : decode cX3_readLine 2 = .ok (.imul, 1) := by decide +kernel
theorem dX3_readLine_3 : decode cX3_readLine 3 = .ok (.istore_n 2, 1) := by decide +kernel
theorem dX3_readLine_4 : decode cX3_readLine 4 = .ok (.iconst 0, 1) := by decide +kernel
theorem dX3_readLine_5 : decode cX3_readLine 5 = .ok (.istore_n 3, 1) := by decide +kernel
theorem dX3_readLine_6 : decode cX3_readLine 6 = .ok (.iload_n 3, 1) := by decide +kernel
theorem dX3_readLine_7 : decode cX3_readLine 7 = .ok (.iconst 3, 1) := by decide +kernel
theorem dX3_readLine_8 : decode cX3_readLine 8 = .ok (.if_icmp .ge 27, 3) := by decide +kernel
theorem dX3_readLine_11 : decode cX3_readLine 11 = .ok (.aload_n 0, 1) := by decide +kernel
theorem dX3_readLine_12 : decode cX3_readLine 12 = .ok (.getfield 15, 3) := by decide +kernel
theorem dX3_readLine_15 : decode cX3_readLine 15 = .ok (.iload_n 2, 1) := by decide +kernel
theorem dX3_readLine_16 : decode cX3_readLine 16 = .ok (.iload_n 3, 1) := by decide +kernel
theorem dX3_readLine_17 : decode cX3_readLine 17 = .ok (.iadd, 1) := by decide +kernel
theorem dX3_readLine_18 : decode cX3_readLine 18 = .ok (.iconst 0, 1) := by decide +kernel
theorem dX3_readLine_19 : decode cX3_readLine 19 = .ok (.iastore, 1) := by decide +kernel
theorem dX3_readLine_20 : decode cX3_readLine 20 = .ok (.aload_n 0, 1) := by decide +kernel
theorem dX3_readLine_21 : decode cX3_readLine 21 = .ok (.getfield 18, 3) := by decide +kernel
theorem dX3_readLine_24 : decode cX3_readLine 24 = .ok (.iload_n 2, 1) := by decide +kernel
theorem dX3_readLine_25 : decode cX3_readLine 25 = .ok (.iload_n 3, 1) := by decide +kernel
theorem dX3_readLine_26 : decode cX3_readLine 26 = .ok (.iadd, 1) := by decide +kernel
theorem dX3_readLine_27 : decode cX3_readLine 27 = .ok (.iconst (-1), 1) := by decide +kernel
theorem dX3_readLine_28 : decode cX3_readLine 28 = .ok (.iastore, 1) := by decide +kernel
theorem dX3_readLine_29 : decode cX3_readLine 29 = .ok (.iinc 3 1, 3) := by decide +kernel
theorem dX3_readLine_32 : decode cX3_readLine 32 = .ok (.goto (-26), 3) := by decide +kernel
theorem dX3_readLine_35 : decode cX3_readLine 35 = .ok (.aload_n 0, 1) := by decide +kernel
theorem dX3_readLine_36 : decode cX3_readLine 36 = .ok (.getfield 26, 3) := by decide +kernel
theorem dX3_readLine_39 : decode cX3_readLine 39 = .ok (.invokevirtual 41, 3) := by decide +kernel
theorem dX3_readLine_42 : decode cX3_readLine 42 = .ok (.aload_n 0, 1) := by decide +kernel
theorem dX3_readLine_43 : decode cX3_readLine 43 = .ok (.getfield 26, 3) := by decide +kernel
theorem dX3_readLine_46 : decode cX3_readLine 46 = .ok (.getfield 30, 3) := by decide +kernel
theorem dX3_readLine_49 : decode cX3_readLine 49 = .ok (.istore_n 3, 1) := by decide +kernel
theorem dX3_readLine_50 : decode cX3_readLine 50 = .ok (.aload_n 0, 1) := by decide +kernel
theorem dX3_readLine_51 : decode cX3_readLine 51 = .ok (.getfield 26, 3) := by decide +kernel
theorem dX3_readLine_54 : decode cX3_readLine 54 = .ok (.invokevirtual 52, 3) := by decide +kernel
theorem dX3_readLine_57 : decode cX3_readLine 57 = .ok (.iconst 0, 1) := by decide +kernel
theorem dX3_readLine_58 : decode cX3_readLine 58 = .ok (.istore 4, 2) := by decide +kernel
theorem dX3_readLine_60 : decode cX3_readLine 60 = .ok (.iload 4, 2) := by decide +kernel
theorem dX3_readLine_62 : decode cX3_readLine 62 = .ok (.getstatic 55, 3) := by decide +kernel
theorem dX3_readLine_65 : decode cX3_readLine 65 = .ok (.arraylength, 1) := by decide +kernel
theorem dX3_readLine_66 : decode cX3_readLine 66 = .ok (.if_icmp .ge 52, 3) := by decide +kernel
theorem dX3_readLine_69 : decode cX3_readLine 69 = .ok (.aload_n 0, 1) := by decide +kernel
theorem dX3_readLine_70 : decode cX3_readLine 70 = .ok (.getfield 26, 3) := by decide +kernel
theorem dX3_readLine_73 : decode cX3_readLine 73 = .ok (.getstatic 55, 3) := by decide +kernel
theorem dX3_readLine_76 : decode cX3_readLine 76 = .ok (.iload 4, 2) := by decide +kernel
theorem dX3_readLine_78 : decode cX3_readLine 78 = .ok (.aaload, 1) := by decide +kernel
theorem dX3_readLine_79 : decode cX3_readLine 79 = .ok (.getfield 59, 3) := by decide +kernel
theorem dX3_readLine_82 : decode cX3_readLine 82 = .ok (.iload_n 3, 1) := by decide +kernel
theorem dX3_readLine_83 : decode cX3_readLine 83 = .ok (.invokevirtual 65, 3) := by decide +kernel
theorem dX3_readLine_86 : decode cX3_readLine 86 = .ok (.ifCond .eq 26, 3) := by decide +kernel
theorem dX3_readLine_89 : decode cX3_readLine 89 = .ok (.aload_n 0, 1) := by decide +kernel
theorem dX3_readLine_90 : decode cX3_readLine 90 = .ok (.getfield 9, 3) := by decide +kernel
theorem dX3_readLine_93 : decode cX3_readLine 93 = .ok (.iload_n 1, 1) := by decide +kernel
theorem dX3_readLine_94 : decode cX3_readLine 94 = .ok (.iload 4, 2) := by decide +kernel
theorem dX3_readLine_96 : decode cX3_readLine 96 = .ok (.iastore, 1) := by decide +kernel
theorem dX3_readLine_97 : decode cX3_readLine 97 = .ok (.aload_n 0, 1) := by decide +kernel
theorem dX3_readLine_98 : decode cX3_readLine 98 = .ok (.iload_n 2, 1) := by decide +kernel
theorem dX3_readLine_99 : decode cX3_readLine 99 = .ok (.getstatic 55, 3) := by decide +kernel
theorem dX3_readLine_102 : decode cX3_readLine 102 = .ok (.iload 4, 2) := by decide +kernel
theorem dX3_readLine_104 : decode cX3_readLine 104 = .ok (.aaload, 1) := by decide +kernel
theorem dX3_readLine_105 : decode cX3_readLine 105 = .ok (.getfield 69, 3) := by decide +kernel
theorem dX3_readLine_108 : decode cX3_readLine 108 = .ok (.invokevirtual 72, 3) := by decide +kernel
theorem dX3_readLine_111 : decode cX3_readLine 111 = .ok (.ireturn, 1) := by decide +kernel
theorem dX3_readLine_112 : decode cX3_readLine 112 = .ok (.iinc 4 1, 3) := by decide +kernel
theorem dX3_readLine_115 : decode cX3_readLine 115 = .ok (.goto (-55), 3) := by decide +kernel
theorem dX3_readLine_118 : decode cX3_readLine 118 = .ok (.iload_n 3, 1) := by decide +kernel
theorem dX3_readLine_119 : decode cX3_readLine 119 = .ok (.ireturn, 1) := by decide +kernel
theorem dX3_readOperands_0 : decode cX3_readOperands 0 = .ok (.iconst 0, 1) := by decide +kernel
theorem dX3_readOperands_1 : decode cX3_readOperands 1 = .ok (.istore_n 3, 1) := by decide +kernel
theorem dX3_readOperands_2 : decode cX3_readOperands 2 = .ok (.iload_n 3, 1) := by decide +kernel
theorem dX3_readOperands_3 : decode cX3_readOperands 3 = .ok (.iload_n 2, 1) := by decide +kernel
theorem dX3_readOperands_4 : decode cX3_readOperands 4 = .ok (.if_icmp .ge 61, 3) := by decide +kernel
theorem dX3_readOperands_7 : decode cX3_readOperands 7 = .ok (.iload_n 3, 1) := by decide +kernel
theorem dX3_readOperands_8 : decode cX3_readOperands 8 = .ok (.iconst 3, 1) := by decide +kernel
theorem dX3_readOperands_9 : decode cX3_readOperands 9 = .ok (.if_icmp .ge 56, 3) := by decide +kernel
theorem dX3_readOperands_12 : decode cX3_readOperands 12 = .ok (.aload_n 0, 1) := by decide +kernel
theorem dX3_readOperands_13 : decode cX3_readOperands 13 = .ok (.getfield 26, 3) := by decide +kernel
theorem dX3_readOperands_16 : decode cX3_readOperands 16 = .ok (.invokevirtual 41, 3) := by decide +kernel
theorem dX3_readOperands_19 : decode cX3_readOperands 19 = .ok (.aload_n 0, 1) := by decide +kernel
theorem dX3_readOperands_20 : decode cX3_readOperands 20 = .ok (.getfield 26, 3) := by decide +kernel
theorem dX3_readOperands_23 : decode cX3_readOperands 23 = .ok (.invokevirtual 48, 3) := by decide +kernel
theorem dX3_readOperands_26 : decode cX3_readOperands 26 = .ok (.bipush 64, 2) := by decide +kernel
theorem dX3_readOperands_28 : decode cX3_readOperands 28 = .ok (.if_icmp .ne 13, 3) := by decide +kernel
theorem dX3_readOperands_31 : decode cX3_readOperands 31 = .ok (.aload_n 0, 1) := by decide +kernel
theorem dX3_readOperands_32 : decode cX3_readOperands 32 = .ok (.iload_n 1, 1) := by decide +kernel
theorem dX3_readOperands_33 : decode cX3_readOperands 33 = .ok (.iload_n 3, 1) := by decide +kernel
theorem dX3_readOperands_34 : decode cX3_readOperands 34 = .ok (.iadd, 1) := by decide +kernel
theorem dX3_readOperands_35 : decode cX3_readOperands 35 = .ok (.invokevirtual 76, 3) := by decide +kernel
theorem dX3_readOperands_38 : decode cX3_readOperands 38 = .ok (.goto 10, 3) := by decide +kernel
theorem dX3_readOperands_41 : decode cX3_readOperands 41 = .ok (.aload_n 0, 1) := by decide +kernel
theorem dX3_readOperands_42 : decode cX3_readOperands 42 = .ok (.iload_n 1, 1) := by decide +kernel
theorem dX3_readOperands_43 : decode cX3_readOperands 43 = .ok (.iload_n 3, 1) := by decide +kernel
theorem dX3_readOperands_44 : decode cX3_readOperands 44 = .ok (.iadd, 1) := by decide +kernel
theorem dX3_readOperands_45 : decode cX3_readOperands 45 = .ok (.invokevirtual 79, 3) := by decide +kernel
theorem dX3_readOperands_48 : decode cX3_readOperands 48 = .ok (.istore 4, 2) := by decide +kernel
theorem dX3_readOperands_50 : decode cX3_readOperands 50 = .ok (.iload 4, 2) := by decide +kernel
theorem dX3_readOperands_52 : decode cX3_readOperands 52 = .ok (.iconst (-1), 1) := by decide +kernel
theorem dX3_readOperands_53 : decode cX3_readOperands 53 = .ok (.if_icmp .eq 6, 3) := by decide +kernel
theorem dX3_readOperands_56 : decode cX3_readOperands 56 = .ok (.iload 4, 2) := by decide +kernel
theorem dX3_readOperands_58 : decode cX3_readOperands 58 = .ok (.ireturn, 1) := by decide +kernel
theorem dX3_readOperands_59 : decode cX3_readOperands 59 = .ok (.iinc 3 1, 3) := by decide +kernel
theorem dX3_readOperands_62 : decode cX3_readOperands 62 = .ok (.goto (-60), 3) := by decide +kernel
theorem dX3_readOperands_65 : decode cX3_readOperands 65 = .ok (.iconst (-1), 1) := by decide +kernel
theorem dX3_readOperands_66 : decode cX3_readOperands 66 = .ok (.ireturn, 1) := by decide +kernel
theorem dX3_readNumber_0 : decode cX3_readNumber 0 = .ok (.aload_n 0, 1) := by decide +kernel
theorem dX3_readNumber_1 : decode cX3_readNumber 1 = .ok (.getfield 26, 3) := by decide +kernel
theorem dX3_readNumber_4 : decode cX3_readNumber 4 = .ok (.getfield 30, 3) := by decide +kernel
theorem dX3_readNumber_7 : decode cX3_readNumber 7 = .ok (.istore_n 2, 1) := by decide +kernel
theorem dX3_readNumber_8 : decode cX3_readNumber 8 = .ok (.aload_n 0, 1) := by decide +kernel
theorem dX3_readNumber_9 : decode cX3_readNumber 9 = .ok (.getfield 26, 3) := by decide +kernel
theorem dX3_readNumber_12 : decode cX3_readNumber 12 = .ok (.invokevirtual 48, 3) := by decide +kernel
theorem dX3_readNumber_15 : decode cX3_readNumber 15 = .ok (.bipush 45, 2) := by decide +kernel
theorem dX3_readNumber_17 : decode cX3_readNumber 17 = .ok (.if_icmp .ne 7, 3) := by decide +kernel
theorem dX3_readNumber_20 : decode cX3_readNumber 20 = .ok (.iconst 1, 1) := by decide +kernel
theorem dX3_readNumber_21 : decode cX3_readNumber 21 = .ok (.goto 4, 3) := by decide +kernel
theorem dX3_readNumber_24 : decode cX3_readNumber 24 = .ok (.iconst 0, 1) := by decide +kernel
theorem dX3_readNumber_25 : decode cX3_readNumber 25 = .ok (.istore_n 3, 1) := by decide +kernel
theorem dX3_readNumber_26 : decode cX3_readNumber 26 = .ok (.aload_n 0, 1) := by decide +kernel
theorem dX3_readNumber_27 : decode cX3_readNumber 27 = .ok (.getfield 26, 3) := by decide +kernel
theorem dX3_readNumber_30 : decode cX3_readNumber 30 = .ok (.dup, 1) := by decide +kernel
theorem dX3_readNumber_31 : decode cX3_readNumber 31 = .ok (.getfield 30, 3) := by decide +kernel
theorem dX3_readNumber_34 : decode cX3_readNumber 34 = .ok (.iload_n 3, 1) := by decide +kernel
theorem dX3_readNumber_35 : decode cX3_readNumber 35 = .ok (.ifCond .eq 7, 3) := by decide +kernel
theorem dX3_readNumber_38 : decode cX3_readNumber 38 = .ok (.iconst 1, 1) := by decide +kernel
theorem dX3_readNumber_39 : decode cX3_readNumber 39 = .ok (.goto 4, 3) := by decide +kernel
theorem dX3_readNumber_42 : decode cX3_readNumber 42 = .ok (.iconst 0, 1) := by decide +kernel
theorem dX3_readNumber_43 : decode cX3_readNumber 43 = .ok (.iadd, 1) := by decide +kernel
theorem dX3_readNumber_44 : decode cX3_readNumber 44 = .ok (.putfield 30, 3) := by decide +kernel
theorem dX3_readNumber_47 : decode cX3_readNumber 47 = .ok (.aload_n 0, 1) := by decide +kernel
theorem dX3_readNumber_48 : decode cX3_readNumber 48 = .ok (.getfield 26, 3) := by decide +kernel
theorem dX3_readNumber_51 : decode cX3_readNumber 51 = .ok (.getfield 30, 3) := by decide +kernel
theorem dX3_readNumber_54 : decode cX3_readNumber 54 = .ok (.istore 4, 2) := by decide +kernel
theorem dX3_readNumber_56 : decode cX3_readNumber 56 = .ok (.aload_n 0, 1) := by decide +kernel
theorem dX3_readNumber_57 : decode cX3_readNumber 57 = .ok (.getfield 26, 3) := by decide +kernel
theorem dX3_readNumber_60 : decode cX3_readNumber 60 = .ok (.invokevirtual 82, 3) := by decide +kernel
theorem dX3_readNumber_63 : decode cX3_readNumber 63 = .ok (.aload_n 0, 1) := by decide +kernel
theorem dX3_readNumber_64 : decode cX3_readNumber 64 = .ok (.getfield 26, 3) := by decide +kernel
theorem dX3_readNumber_67 : decode cX3_readNumber 67 = .ok (.getfield 30, 3) := by decide +kernel
theorem dX3_readNumber_70 : decode cX3_readNumber 70 = .ok (.iload 4, 2) := by decide +kernel
theorem dX3_readNumber_72 : decode cX3_readNumber 72 = .ok (.isub, 1) := by decide +kernel
theorem dX3_readNumber_73 : decode cX3_readNumber 73 = .ok (.istore 5, 2) := by decide +kernel
theorem dX3_readNumber_75 : decode cX3_readNumber 75 = .ok (.iload 5, 2) := by decide +kernel
theorem dX3_readNumber_77 : decode cX3_readNumber 77 = .ok (.iconst 1, 1) := by decide +kernel
theorem dX3_readNumber_78 : decode cX3_readNumber 78 = .ok (.if_icmp .lt 10, 3) := by decide +kernel
theorem dX3_readNumber_81 : decode cX3_readNumber 81 = .ok (.iload 5, 2) := by decide +kernel
theorem dX3_readNumber_83 : decode cX3_readNumber 83 = .ok (.bipush 9, 2) := by decide +kernel
theorem dX3_readNumber_85 : decode cX3_readNumber 85 = .ok (.if_icmp .le 5, 3) := by decide +kernel
theorem dX3_readNumber_88 : decode cX3_readNumber 88 = .ok (.iload_n 2, 1) := by decide +kernel
theorem dX3_readNumber_89 : decode cX3_readNumber 89 = .ok (.ireturn, 1) := by decide +kernel
theorem dX3_readNumber_90 : decode cX3_readNumber 90 = .ok (.aload_n 0, 1) := by decide +kernel
theorem dX3_readNumber_91 : decode cX3_readNumber 91 = .ok (.getfield 15, 3) := by decide +kernel
theorem dX3_readNumber_94 : decode cX3_readNumber 94 = .ok (.iload_n 1, 1) := by decide +kernel
theorem dX3_readNumber_95 : decode cX3_readNumber 95 = .ok (.iload_n 3, 1) := by decide +kernel
theorem dX3_readNumber_96 : decode cX3_readNumber 96 = .ok (.ifCond .eq 16, 3) := by decide +kernel
theorem dX3_readNumber_99 : decode cX3_readNumber 99 = .ok (.aload_n 0, 1) := by decide +kernel
theorem dX3_readNumber_100 : decode cX3_readNumber 100 = .ok (.getfield 26, 3) := by decide +kernel
theorem dX3_readNumber_103 : decode cX3_readNumber 103 = .ok (.iload 4, 2) := by decide +kernel
theorem dX3_readNumber_105 : decode cX3_readNumber 105 = .ok (.invokevirtual 85, 3) := by decide +kernel
theorem dX3_readNumber_108 : decode cX3_readNumber 108 = .ok (.ineg, 1) := by decide +kernel
theorem dX3_readNumber_109 : decode cX3_readNumber 109 = .ok (.goto 12, 3) := by decide +kernel
theorem dX3_readNumber_112 : decode cX3_readNumber 112 = .ok (.aload_n 0, 1) := by decide +kernel
theorem dX3_readNumber_113 : decode cX3_readNumber 113 = .ok (.getfield 26, 3) := by decide +kernel
theorem dX3_readNumber_116 : decode cX3_readNumber 116 = .ok (.iload 4, 2) := by decide +kernel
theorem dX3_readNumber_118 : decode cX3_readNumber 118 = .ok (.invokevirtual 85, 3) := by decide +kernel
theorem dX3_readNumber_121 : decode cX3_readNumber 121 = .ok (.iastore, 1) := by decide +kernel
theorem dX3_readNumber_122 : decode cX3_readNumber 122 = .ok (.iconst (-1), 1) := by decide +kernel
theorem dX3_readNumber_123 : decode cX3_readNumber 123 = .ok (.ireturn, 1) := by decide +kernel
theorem dX3_readTie_0 : decode cX3_readTie 0 = .ok (.aload_n 0, 1) := by decide +kernel
theorem dX3_readTie_1 : decode cX3_readTie 1 = .ok (.getfield 26, 3) := by decide +kernel
theorem dX3_readTie_4 : decode cX3_readTie 4 = .ok (.getfield 30, 3) := by decide +kernel
theorem dX3_readTie_7 : decode cX3_readTie 7 = .ok (.istore_n 2, 1) := by decide +kernel
theorem dX3_readTie_8 : decode cX3_readTie 8 = .ok (.aload_n 0, 1) := by decide +kernel
theorem dX3_readTie_9 : decode cX3_readTie 9 = .ok (.getfield 26, 3) := by decide +kernel
theorem dX3_readTie_12 : decode cX3_readTie 12 = .ok (.dup, 1) := by decide +kernel
theorem dX3_readTie_13 : decode cX3_readTie 13 = .ok (.getfield 30, 3) := by decide +kernel
theorem dX3_readTie_16 : decode cX3_readTie 16 = .ok (.iconst 1, 1) := by decide +kernel
theorem dX3_readTie_17 : decode cX3_readTie 17 = .ok (.iadd, 1) := by decide +kernel
theorem dX3_readTie_18 : decode cX3_readTie 18 = .ok (.putfield 30, 3) := by decide +kernel
theorem dX3_readTie_21 : decode cX3_readTie 21 = .ok (.aload_n 0, 1) := by decide +kernel
theorem dX3_readTie_22 : decode cX3_readTie 22 = .ok (.getfield 26, 3) := by decide +kernel
theorem dX3_readTie_25 : decode cX3_readTie 25 = .ok (.getfield 30, 3) := by decide +kernel
theorem dX3_readTie_28 : decode cX3_readTie 28 = .ok (.istore_n 3, 1) := by decide +kernel
theorem dX3_readTie_29 : decode cX3_readTie 29 = .ok (.aload_n 0, 1) := by decide +kernel
theorem dX3_readTie_30 : decode cX3_readTie 30 = .ok (.getfield 26, 3) := by decide +kernel
theorem dX3_readTie_33 : decode cX3_readTie 33 = .ok (.invokevirtual 82, 3) := by decide +kernel
theorem dX3_readTie_36 : decode cX3_readTie 36 = .ok (.aload_n 0, 1) := by decide +kernel
theorem dX3_readTie_37 : decode cX3_readTie 37 = .ok (.getfield 26, 3) := by decide +kernel
theorem dX3_readTie_40 : decode cX3_readTie 40 = .ok (.getfield 30, 3) := by decide +kernel
theorem dX3_readTie_43 : decode cX3_readTie 43 = .ok (.iload_n 3, 1) := by decide +kernel
theorem dX3_readTie_44 : decode cX3_readTie 44 = .ok (.isub, 1) := by decide +kernel
theorem dX3_readTie_45 : decode cX3_readTie 45 = .ok (.istore 4, 2) := by decide +kernel
theorem dX3_readTie_47 : decode cX3_readTie 47 = .ok (.iload 4, 2) := by decide +kernel
theorem dX3_readTie_49 : decode cX3_readTie 49 = .ok (.iconst 1, 1) := by decide +kernel
theorem dX3_readTie_50 : decode cX3_readTie 50 = .ok (.if_icmp .lt 24, 3) := by decide +kernel
theorem dX3_readTie_53 : decode cX3_readTie 53 = .ok (.iload 4, 2) := by decide +kernel
theorem dX3_readTie_55 : decode cX3_readTie 55 = .ok (.iconst 2, 1) := by decide +kernel
theorem dX3_readTie_56 : decode cX3_readTie 56 = .ok (.if_icmp .gt 18, 3) := by decide +kernel
theorem dX3_readTie_59 : decode cX3_readTie 59 = .ok (.aload_n 0, 1) := by decide +kernel
theorem dX3_readTie_60 : decode cX3_readTie 60 = .ok (.getfield 26, 3) := by decide +kernel
theorem dX3_readTie_63 : decode cX3_readTie 63 = .ok (.iload_n 3, 1) := by decide +kernel
theorem dX3_readTie_64 : decode cX3_readTie 64 = .ok (.invokevirtual 85, 3) := by decide +kernel
theorem dX3_readTie_67 : decode cX3_readTie 67 = .ok (.aload_n 0, 1) := by decide +kernel
theorem dX3_readTie_68 : decode cX3_readTie 68 = .ok (.getfield 34, 3) := by decide +kernel
theorem dX3_readTie_71 : decode cX3_readTie 71 = .ok (.if_icmp .lt 5, 3) := by decide +kernel
theorem dX3_readTie_74 : decode cX3_readTie 74 = .ok (.iload_n 2, 1) := by decide +kernel
theorem dX3_readTie_75 : decode cX3_readTie 75 = .ok (.ireturn, 1) := by decide +kernel
theorem dX3_readTie_76 : decode cX3_readTie 76 = .ok (.aload_n 0, 1) := by decide +kernel
theorem dX3_readTie_77 : decode cX3_readTie 77 = .ok (.getfield 26, 3) := by decide +kernel
theorem dX3_readTie_80 : decode cX3_readTie 80 = .ok (.invokevirtual 48, 3) := by decide +kernel
theorem dX3_readTie_83 : decode cX3_readTie 83 = .ok (.bipush 39, 2) := by decide +kernel
theorem dX3_readTie_85 : decode cX3_readTie 85 = .ok (.if_icmp .ne 7, 3) := by decide +kernel
theorem dX3_readTie_88 : decode cX3_readTie 88 = .ok (.iconst 1, 1) := by decide +kernel
theorem dX3_readTie_89 : decode cX3_readTie 89 = .ok (.goto 4, 3) := by decide +kernel
theorem dX3_readTie_92 : decode cX3_readTie 92 = .ok (.iconst 0, 1) := by decide +kernel
theorem dX3_readTie_93 : decode cX3_readTie 93 = .ok (.istore 5, 2) := by decide +kernel
theorem dX3_readTie_95 : decode cX3_readTie 95 = .ok (.aload_n 0, 1) := by decide +kernel
theorem dX3_readTie_96 : decode cX3_readTie 96 = .ok (.getfield 18, 3) := by decide +kernel
theorem dX3_readTie_99 : decode cX3_readTie 99 = .ok (.iload_n 1, 1) := by decide +kernel
theorem dX3_readTie_100 : decode cX3_readTie 100 = .ok (.iconst 2, 1) := by decide +kernel
theorem dX3_readTie_101 : decode cX3_readTie 101 = .ok (.aload_n 0, 1) := by decide +kernel
theorem dX3_readTie_102 : decode cX3_readTie 102 = .ok (.getfield 26, 3) := by decide +kernel
theorem dX3_readTie_105 : decode cX3_readTie 105 = .ok (.iload_n 3, 1) := by decide +kernel
theorem dX3_readTie_106 : decode cX3_readTie 106 = .ok (.invokevirtual 85, 3) := by decide +kernel
theorem dX3_readTie_109 : decode cX3_readTie 109 = .ok (.imul, 1) := by decide +kernel
theorem dX3_readTie_110 : decode cX3_readTie 110 = .ok (.iload 5, 2) := by decide +kernel
theorem dX3_readTie_112 : decode cX3_readTie 112 = .ok (.ifCond .eq 7, 3) := by decide +kernel
theorem dX3_readTie_115 : decode cX3_readTie 115 = .ok (.iconst 1, 1) := by decide +kernel
theorem dX3_readTie_116 : decode cX3_readTie 116 = .ok (.goto 4, 3) := by decide +kernel
theorem dX3_readTie_119 : decode cX3_readTie 119 = .ok (.iconst 0, 1) := by decide +kernel
theorem dX3_readTie_120 : decode cX3_readTie 120 = .ok (.iadd, 1) := by decide +kernel
theorem dX3_readTie_121 : decode cX3_readTie 121 = .ok (.iastore, 1) := by decide +kernel
theorem dX3_readTie_122 : decode cX3_readTie 122 = .ok (.aload_n 0, 1) := by decide +kernel
theorem dX3_readTie_123 : decode cX3_readTie 123 = .ok (.getfield 26, 3) := by decide +kernel
theorem dX3_readTie_126 : decode cX3_readTie 126 = .ok (.dup, 1) := by decide +kernel
theorem dX3_readTie_127 : decode cX3_readTie 127 = .ok (.getfield 30, 3) := by decide +kernel
theorem dX3_readTie_130 : decode cX3_readTie 130 = .ok (.iload 5, 2) := by decide +kernel
theorem dX3_readTie_132 : decode cX3_readTie 132 = .ok (.ifCond .eq 7, 3) := by decide +kernel
theorem dX3_readTie_135 : decode cX3_readTie 135 = .ok (.iconst 1, 1) := by decide +kernel
theorem dX3_readTie_136 : decode cX3_readTie 136 = .ok (.goto 4, 3) := by decide +kernel
theorem dX3_readTie_139 : decode cX3_readTie 139 = .ok (.iconst 0, 1) := by decide +kernel
theorem dX3_readTie_140 : decode cX3_readTie 140 = .ok (.iadd, 1) := by decide +kernel
theorem dX3_readTie_141 : decode cX3_readTie 141 = .ok (.putfield 30, 3) := by decide +kernel
theorem dX3_readTie_144 : decode cX3_readTie 144 = .ok (.iconst (-1), 1) := by decide +kernel
theorem dX3_readTie_145 : decode cX3_readTie 145 = .ok (.ireturn, 1) := by decide +kernel
theorem dX5_init_0 : decode cX5_init 0 = .ok (.aload_n 0, 1) := by decide +kernel
theorem dX5_init_1 : decode cX5_init 1 = .ok (.invokespecial 1, 3) := by decide +kernel
theorem dX5_init_4 : decode cX5_init 4 = .ok (.aload_n 0, 1) := by decide +kernel
theorem dX5_init_5 : decode cX5_init 5 = .ok (.aload_n 1, 1) := by decide +kernel
theorem dX5_init_6 : decode cX5_init 6 = .ok (.putfield 7, 3) := by decide +kernel
theorem dX5_init_9 : decode cX5_init 9 = .ok (.return_, 1) := by decide +kernel
theorem dX5_here_0 : decode cX5_here 0 = .ok (.aload_n 0, 1) := by decide +kernel
theorem dX5_here_1 : decode cX5_here 1 = .ok (.getfield 13, 3) := by decide +kernel
theorem dX5_here_4 : decode cX5_here 4 = .ok (.ifCond .lt 32, 3) := by decide +kernel
theorem dX5_here_7 : decode cX5_here 7 = .ok (.aload_n 0, 1) := by decide +kernel
theorem dX5_here_8 : decode cX5_here 8 = .ok (.getfield 13, 3) := by decide +kernel
theorem dX5_here_11 : decode cX5_here 11 = .ok (.aload_n 0, 1) := by decide +kernel
theorem dX5_here_12 : decode cX5_here 12 = .ok (.getfield 7, 3) := by decide +kernel
theorem dX5_here_15 : decode cX5_here 15 = .ok (.getfield 17, 3) := by decide +kernel
theorem dX5_here_18 : decode cX5_here 18 = .ok (.if_icmp .ge 18, 3) := by decide +kernel
theorem dX5_here_21 : decode cX5_here 21 = .ok (.aload_n 0, 1) := by decide +kernel
theorem dX5_here_22 : decode cX5_here 22 = .ok (.getfield 7, 3) := by decide +kernel
theorem dX5_here_25 : decode cX5_here 25 = .ok (.getfield 22, 3) := by decide +kernel
theorem dX5_here_28 : decode cX5_here 28 = .ok (.aload_n 0, 1) := by decide +kernel
theorem dX5_here_29 : decode cX5_here 29 = .ok (.getfield 13, 3) := by decide +kernel
theorem dX5_here_32 : decode cX5_here 32 = .ok (.iaload, 1) := by decide +kernel
theorem dX5_here_33 : decode cX5_here 33 = .ok (.goto 4, 3) := by decide +kernel
theorem dX5_here_36 : decode cX5_here 36 = .ok (.iconst 0, 1) := by decide +kernel
theorem dX5_here_37 : decode cX5_here 37 = .ok (.ireturn, 1) := by decide +kernel
theorem dX5_isAtEnd_0 : decode cX5_isAtEnd 0 = .ok (.aload_n 0, 1) := by decide +kernel
theorem dX5_isAtEnd_1 : decode cX5_isAtEnd 1 = .ok (.getfield 13, 3) := by decide +kernel
theorem dX5_isAtEnd_4 : decode cX5_isAtEnd 4 = .ok (.aload_n 0, 1) := by decide +kernel
theorem dX5_isAtEnd_5 : decode cX5_isAtEnd 5 = .ok (.getfield 7, 3) := by decide +kernel
theorem dX5_isAtEnd_8 : decode cX5_isAtEnd 8 = .ok (.getfield 17, 3) := by decide +kernel
theorem dX5_isAtEnd_11 : decode cX5_isAtEnd 11 = .ok (.if_icmp .lt 7, 3) := by decide +kernel
theorem dX5_isAtEnd_14 : decode cX5_isAtEnd 14 = .ok (.iconst 1, 1) := by decide +kernel
theorem dX5_isAtEnd_15 : decode cX5_isAtEnd 15 = .ok (.goto 4, 3) := by decide +kernel
theorem dX5_isAtEnd_18 : decode cX5_isAtEnd 18 = .ok (.iconst 0, 1) := by decide +kernel
theorem dX5_isAtEnd_19 : decode cX5_isAtEnd 19 = .ok (.ireturn, 1) := by decide +kernel
theorem dX5_isOnLetter_0 : decode cX5_isOnLetter 0 = .ok (.aload_n 0, 1) := by decide +kernel
theorem dX5_isOnLetter_1 : decode cX5_isOnLetter 1 = .ok (.invokevirtual 26, 3) := by decide +kernel
theorem dX5_isOnLetter_4 : decode cX5_isOnLetter 4 = .ok (.bipush 97, 2) := by decide +kernel
theorem dX5_isOnLetter_6 : decode cX5_isOnLetter 6 = .ok (.if_icmp .lt 16, 3) := by decide +kernel
theorem dX5_isOnLetter_9 : decode cX5_isOnLetter 9 = .ok (.aload_n 0, 1) := by decide +kernel
theorem dX5_isOnLetter_10 : decode cX5_isOnLetter 10 = .ok (.invokevirtual 26, 3) := by decide +kernel
theorem dX5_isOnLetter_13 : decode cX5_isOnLetter 13 = .ok (.bipush 122, 2) := by decide +kernel
theorem dX5_isOnLetter_15 : decode cX5_isOnLetter 15 = .ok (.if_icmp .gt 7, 3) := by decide +kernel
theorem dX5_isOnLetter_18 : decode cX5_isOnLetter 18 = .ok (.iconst 1, 1) := by decide +kernel
theorem dX5_isOnLetter_19 : decode cX5_isOnLetter 19 = .ok (.goto 4, 3) := by decide +kernel
theorem dX5_isOnLetter_22 : decode cX5_isOnLetter 22 = .ok (.iconst 0, 1) := by decide +kernel
theorem dX5_isOnLetter_23 : decode cX5_isOnLetter 23 = .ok (.ireturn, 1) := by decide +kernel
theorem dX5_isOnDigit_0 : decode cX5_isOnDigit 0 = .ok (.aload_n 0, 1) := by decide +kernel
theorem dX5_isOnDigit_1 : decode cX5_isOnDigit 1 = .ok (.invokevirtual 26, 3) := by decide +kernel
theorem dX5_isOnDigit_4 : decode cX5_isOnDigit 4 = .ok (.bipush 48, 2) := by decide +kernel
theorem dX5_isOnDigit_6 : decode cX5_isOnDigit 6 = .ok (.if_icmp .lt 16, 3) := by decide +kernel
theorem dX5_isOnDigit_9 : decode cX5_isOnDigit 9 = .ok (.aload_n 0, 1) := by decide +kernel
theorem dX5_isOnDigit_10 : decode cX5_isOnDigit 10 = .ok (.invokevirtual 26, 3) := by decide +kernel
theorem dX5_isOnDigit_13 : decode cX5_isOnDigit 13 = .ok (.bipush 57, 2) := by decide +kernel
theorem dX5_isOnDigit_15 : decode cX5_isOnDigit 15 = .ok (.if_icmp .gt 7, 3) := by decide +kernel
theorem dX5_isOnDigit_18 : decode cX5_isOnDigit 18 = .ok (.iconst 1, 1) := by decide +kernel
theorem dX5_isOnDigit_19 : decode cX5_isOnDigit 19 = .ok (.goto 4, 3) := by decide +kernel
theorem dX5_isOnDigit_22 : decode cX5_isOnDigit 22 = .ok (.iconst 0, 1) := by decide +kernel
theorem dX5_isOnDigit_23 : decode cX5_isOnDigit 23 = .ok (.ireturn, 1) := by decide +kernel
theorem dX5_skipBlanks_0 : decode cX5_skipBlanks 0 = .ok (.aload_n 0, 1) := by decide +kernel
theorem dX5_skipBlanks_1 : decode cX5_skipBlanks 1 = .ok (.getfield 13, 3) := by decide +kernel
theorem dX5_skipBlanks_4 : decode cX5_skipBlanks 4 = .ok (.aload_n 0, 1) := by decide +kernel
theorem dX5_skipBlanks_5 : decode cX5_skipBlanks 5 = .ok (.getfield 7, 3) := by decide +kernel
theorem dX5_skipBlanks_8 : decode cX5_skipBlanks 8 = .ok (.getfield 17, 3) := by decide +kernel
theorem dX5_skipBlanks_11 : decode cX5_skipBlanks 11 = .ok (.if_icmp .ge 25, 3) := by decide +kernel
theorem dX5_skipBlanks_14 : decode cX5_skipBlanks 14 = .ok (.aload_n 0, 1) := by decide +kernel
theorem dX5_skipBlanks_15 : decode cX5_skipBlanks 15 = .ok (.invokevirtual 26, 3) := by decide +kernel
theorem dX5_skipBlanks_18 : decode cX5_skipBlanks 18 = .ok (.bipush 32, 2) := by decide +kernel
theorem dX5_skipBlanks_20 : decode cX5_skipBlanks 20 = .ok (.if_icmp .ne 16, 3) := by decide +kernel
theorem dX5_skipBlanks_23 : decode cX5_skipBlanks 23 = .ok (.aload_n 0, 1) := by decide +kernel
theorem dX5_skipBlanks_24 : decode cX5_skipBlanks 24 = .ok (.dup, 1) := by decide +kernel
theorem dX5_skipBlanks_25 : decode cX5_skipBlanks 25 = .ok (.getfield 13, 3) := by decide +kernel
theorem dX5_skipBlanks_28 : decode cX5_skipBlanks 28 = .ok (.iconst 1, 1) := by decide +kernel
theorem dX5_skipBlanks_29 : decode cX5_skipBlanks 29 = .ok (.iadd, 1) := by decide +kernel
theorem dX5_skipBlanks_30 : decode cX5_skipBlanks 30 = .ok (.putfield 13, 3) := by decide +kernel
theorem dX5_skipBlanks_33 : decode cX5_skipBlanks 33 = .ok (.goto (-33), 3) := by decide +kernel
theorem dX5_skipBlanks_36 : decode cX5_skipBlanks 36 = .ok (.return_, 1) := by decide +kernel
theorem dX5_passLetters_0 : decode cX5_passLetters 0 = .ok (.aload_n 0, 1) := by decide +kernel
theorem dX5_passLetters_1 : decode cX5_passLetters 1 = .ok (.getfield 13, 3) := by decide +kernel
theorem dX5_passLetters_4 : decode cX5_passLetters 4 = .ok (.aload_n 0, 1) := by decide +kernel
theorem dX5_passLetters_5 : decode cX5_passLetters 5 = .ok (.getfield 7, 3) := by decide +kernel
theorem dX5_passLetters_8 : decode cX5_passLetters 8 = .ok (.getfield 17, 3) := by decide +kernel
theorem dX5_passLetters_11 : decode cX5_passLetters 11 = .ok (.if_icmp .ge 23, 3) := by decide +kernel
theorem dX5_passLetters_14 : decode cX5_passLetters 14 = .ok (.aload_n 0, 1) := by decide +kernel
theorem dX5_passLetters_15 : decode cX5_passLetters 15 = .ok (.invokevirtual 30, 3) := by decide +kernel
theorem dX5_passLetters_18 : decode cX5_passLetters 18 = .ok (.ifCond .eq 16, 3) := by decide +kernel
theorem dX5_passLetters_21 : decode cX5_passLetters 21 = .ok (.aload_n 0, 1) := by decide +kernel
theorem dX5_passLetters_22 : decode cX5_passLetters 22 = .ok (.dup, 1) := by decide +kernel
theorem dX5_passLetters_23 : decode cX5_passLetters 23 = .ok (.getfield 13, 3) := by decide +kernel
theorem dX5_passLetters_26 : decode cX5_passLetters 26 = .ok (.iconst 1, 1) := by decide +kernel
theorem dX5_passLetters_27 : decode cX5_passLetters 27 = .ok (.iadd, 1) := by decide +kernel
theorem dX5_passLetters_28 : decode cX5_passLetters 28 = .ok (.putfield 13, 3) := by decide +kernel
theorem dX5_passLetters_31 : decode cX5_passLetters 31 = .ok (.goto (-31), 3) := by decide +kernel
theorem dX5_passLetters_34 : decode cX5_passLetters 34 = .ok (.return_, 1) := by decide +kernel
theorem dX5_passDigits_0 : decode cX5_passDigits 0 = .ok (.aload_n 0, 1) := by decide +kernel
theorem dX5_passDigits_1 : decode cX5_passDigits 1 = .ok (.getfield 13, 3) := by decide +kernel
theorem dX5_passDigits_4 : decode cX5_passDigits 4 = .ok (.aload_n 0, 1) := by decide +kernel
theorem dX5_passDigits_5 : decode cX5_passDigits 5 = .ok (.getfield 7, 3) := by decide +kernel
theorem dX5_passDigits_8 : decode cX5_passDigits 8 = .ok (.getfield 17, 3) := by decide +kernel
theorem dX5_passDigits_11 : decode cX5_passDigits 11 = .ok (.if_icmp .ge 23, 3) := by decide +kernel
theorem dX5_passDigits_14 : decode cX5_passDigits 14 = .ok (.aload_n 0, 1) := by decide +kernel
theorem dX5_passDigits_15 : decode cX5_passDigits 15 = .ok (.invokevirtual 34, 3) := by decide +kernel
theorem dX5_passDigits_18 : decode cX5_passDigits 18 = .ok (.ifCond .eq 16, 3) := by decide +kernel
theorem dX5_passDigits_21 : decode cX5_passDigits 21 = .ok (.aload_n 0, 1) := by decide +kernel
theorem dX5_passDigits_22 : decode cX5_passDigits 22 = .ok (.dup, 1) := by decide +kernel
theorem dX5_passDigits_23 : decode cX5_passDigits 23 = .ok (.getfield 13, 3) := by decide +kernel
theorem dX5_passDigits_26 : decode cX5_passDigits 26 = .ok (.iconst 1, 1) := by decide +kernel
theorem dX5_passDigits_27 : decode cX5_passDigits 27 = .ok (.iadd, 1) := by decide +kernel
theorem dX5_passDigits_28 : decode cX5_passDigits 28 = .ok (.putfield 13, 3) := by decide +kernel
theorem dX5_passDigits_31 : decode cX5_passDigits 31 = .ok (.goto (-31), 3) := by decide +kernel
theorem dX5_passDigits_34 : decode cX5_passDigits 34 = .ok (.return_, 1) := by decide +kernel
theorem dX5_reads_0 : decode cX5_reads 0 = .ok (.iload_n 2, 1) := by decide +kernel
theorem dX5_reads_1 : decode cX5_reads 1 = .ok (.ifCond .lt 30, 3) := by decide +kernel
theorem dX5_reads_4 : decode cX5_reads 4 = .ok (.aload_n 0, 1) := by decide +kernel
theorem dX5_reads_5 : decode cX5_reads 5 = .ok (.getfield 13, 3) := by decide +kernel
theorem dX5_reads_8 : decode cX5_reads 8 = .ok (.aload_n 0, 1) := by decide +kernel
theorem dX5_reads_9 : decode cX5_reads 9 = .ok (.getfield 7, 3) := by decide +kernel
theorem dX5_reads_12 : decode cX5_reads 12 = .ok (.getfield 17, 3) := by decide +kernel
theorem dX5_reads_15 : decode cX5_reads 15 = .ok (.if_icmp .gt 16, 3) := by decide +kernel
theorem dX5_reads_18 : decode cX5_reads 18 = .ok (.aload_n 0, 1) := by decide +kernel
theorem dX5_reads_19 : decode cX5_reads 19 = .ok (.getfield 13, 3) := by decide +kernel
theorem dX5_reads_22 : decode cX5_reads 22 = .ok (.iload_n 2, 1) := by decide +kernel
theorem dX5_reads_23 : decode cX5_reads 23 = .ok (.isub, 1) := by decide +kernel
theorem dX5_reads_24 : decode cX5_reads 24 = .ok (.aload_n 1, 1) := by decide +kernel
theorem dX5_reads_25 : decode cX5_reads 25 = .ok (.invokevirtual 37, 3) := by decide +kernel
theorem dX5_reads_28 : decode cX5_reads 28 = .ok (.if_icmp .eq 5, 3) := by decide +kernel
theorem dX5_reads_31 : decode cX5_reads 31 = .ok (.iconst 0, 1) := by decide +kernel
theorem dX5_reads_32 : decode cX5_reads 32 = .ok (.ireturn, 1) := by decide +kernel
theorem dX5_reads_33 : decode cX5_reads 33 = .ok (.iconst 0, 1) := by decide +kernel
theorem dX5_reads_34 : decode cX5_reads 34 = .ok (.istore_n 3, 1) := by decide +kernel
theorem dX5_reads_35 : decode cX5_reads 35 = .ok (.iload_n 3, 1) := by decide +kernel
theorem dX5_reads_36 : decode cX5_reads 36 = .ok (.aload_n 1, 1) := by decide +kernel
theorem dX5_reads_37 : decode cX5_reads 37 = .ok (.invokevirtual 37, 3) := by decide +kernel
theorem dX5_reads_40 : decode cX5_reads 40 = .ok (.if_icmp .ge 30, 3) := by decide +kernel
theorem dX5_reads_43 : decode cX5_reads 43 = .ok (.aload_n 0, 1) := by decide +kernel
theorem dX5_reads_44 : decode cX5_reads 44 = .ok (.getfield 7, 3) := by decide +kernel
theorem dX5_reads_47 : decode cX5_reads 47 = .ok (.getfield 22, 3) := by decide +kernel
theorem dX5_reads_50 : decode cX5_reads 50 = .ok (.iload_n 2, 1) := by decide +kernel
theorem dX5_reads_51 : decode cX5_reads 51 = .ok (.iload_n 3, 1) := by decide +kernel
theorem dX5_reads_52 : decode cX5_reads 52 = .ok (.iadd, 1) := by decide +kernel
theorem dX5_reads_53 : decode cX5_reads 53 = .ok (.iaload, 1) := by decide +kernel
theorem dX5_reads_54 : decode cX5_reads 54 = .ok (.aload_n 1, 1) := by decide +kernel
theorem dX5_reads_55 : decode cX5_reads 55 = .ok (.iload_n 3, 1) := by decide +kernel
theorem dX5_reads_56 : decode cX5_reads 56 = .ok (.invokevirtual 41, 3) := by decide +kernel
theorem dX5_reads_59 : decode cX5_reads 59 = .ok (.if_icmp .eq 5, 3) := by decide +kernel
theorem dX5_reads_62 : decode cX5_reads 62 = .ok (.iconst 0, 1) := by decide +kernel
theorem dX5_reads_63 : decode cX5_reads 63 = .ok (.ireturn, 1) := by decide +kernel
theorem dX5_reads_64 : decode cX5_reads 64 = .ok (.iinc 3 1, 3) := by decide +kernel
theorem dX5_reads_67 : decode cX5_reads 67 = .ok (.goto (-32), 3) := by decide +kernel
theorem dX5_reads_70 : decode cX5_reads 70 = .ok (.iconst 1, 1) := by decide +kernel
theorem dX5_reads_71 : decode cX5_reads 71 = .ok (.ireturn, 1) := by decide +kernel
theorem dX5_number_0 : decode cX5_number 0 = .ok (.iconst 0, 1) := by decide +kernel
theorem dX5_number_1 : decode cX5_number 1 = .ok (.istore_n 2, 1) := by decide +kernel
theorem dX5_number_2 : decode cX5_number 2 = .ok (.iload_n 1, 1) := by decide +kernel
theorem dX5_number_3 : decode cX5_number 3 = .ok (.istore_n 3, 1) := by decide +kernel
theorem dX5_number_4 : decode cX5_number 4 = .ok (.iload_n 3, 1) := by decide +kernel
theorem dX5_number_5 : decode cX5_number 5 = .ok (.ifCond .lt 46, 3) := by decide +kernel
theorem dX5_number_8 : decode cX5_number 8 = .ok (.iload_n 3, 1) := by decide +kernel
theorem dX5_number_9 : decode cX5_number 9 = .ok (.aload_n 0, 1) := by decide +kernel
theorem dX5_number_10 : decode cX5_number 10 = .ok (.getfield 13, 3) := by decide +kernel
theorem dX5_number_13 : decode cX5_number 13 = .ok (.if_icmp .ge 38, 3) := by decide +kernel
theorem dX5_number_16 : decode cX5_number 16 = .ok (.iload_n 3, 1) := by decide +kernel
theorem dX5_number_17 : decode cX5_number 17 = .ok (.aload_n 0, 1) := by decide +kernel
theorem dX5_number_18 : decode cX5_number 18 = .ok (.getfield 7, 3) := by decide +kernel
theorem dX5_number_21 : decode cX5_number 21 = .ok (.getfield 17, 3) := by decide +kernel
theorem dX5_number_24 : decode cX5_number 24 = .ok (.if_icmp .ge 27, 3) := by decide +kernel
theorem dX5_number_27 : decode cX5_number 27 = .ok (.bipush 10, 2) := by decide +kernel
theorem dX5_number_29 : decode cX5_number 29 = .ok (.iload_n 2, 1) := by decide +kernel
theorem dX5_number_30 : decode cX5_number 30 = .ok (.imul, 1) := by decide +kernel
theorem dX5_number_31 : decode cX5_number 31 = .ok (.aload_n 0, 1) := by decide +kernel
theorem dX5_number_32 : decode cX5_number 32 = .ok (.getfield 7, 3) := by decide +kernel
theorem dX5_number_35 : decode cX5_number 35 = .ok (.getfield 22, 3) := by decide +kernel
theorem dX5_number_38 : decode cX5_number 38 = .ok (.iload_n 3, 1) := by decide +kernel
theorem dX5_number_39 : decode cX5_number 39 = .ok (.iaload, 1) := by decide +kernel
theorem dX5_number_40 : decode cX5_number 40 = .ok (.iadd, 1) := by decide +kernel
theorem dX5_number_41 : decode cX5_number 41 = .ok (.bipush 48, 2) := by decide +kernel
theorem dX5_number_43 : decode cX5_number 43 = .ok (.isub, 1) := by decide +kernel
theorem dX5_number_44 : decode cX5_number 44 = .ok (.istore_n 2, 1) := by decide +kernel
theorem dX5_number_45 : decode cX5_number 45 = .ok (.iinc 3 1, 3) := by decide +kernel
theorem dX5_number_48 : decode cX5_number 48 = .ok (.goto (-44), 3) := by decide +kernel
theorem dX5_number_51 : decode cX5_number 51 = .ok (.iload_n 2, 1) := by decide +kernel
theorem dX5_number_52 : decode cX5_number 52 = .ok (.ireturn, 1) := by decide +kernel
theorem dX6_init_0 : decode cX6_init 0 = .ok (.aload_n 0, 1) := by decide +kernel
theorem dX6_init_1 : decode cX6_init 1 = .ok (.invokespecial 3, 3) := by decide +kernel
theorem dX6_init_4 : decode cX6_init 4 = .ok (.aload_n 0, 1) := by decide +kernel
theorem dX6_init_5 : decode cX6_init 5 = .ok (.sipush 400, 3) := by decide +kernel
theorem dX6_init_8 : decode cX6_init 8 = .ok (.newarray .int, 2) := by decide +kernel
theorem dX6_init_10 : decode cX6_init 10 = .ok (.putfield 9, 3) := by decide +kernel
theorem dX6_init_13 : decode cX6_init 13 = .ok (.return_, 1) := by decide +kernel
theorem dX6_bytesTold_0 : decode cX6_bytesTold 0 = .ok (.iconst 0, 1) := by decide +kernel
theorem dX6_bytesTold_1 : decode cX6_bytesTold 1 = .ok (.istore_n 1, 1) := by decide +kernel
theorem dX6_bytesTold_2 : decode cX6_bytesTold 2 = .ok (.bipush 24, 2) := by decide +kernel
theorem dX6_bytesTold_4 : decode cX6_bytesTold 4 = .ok (.istore_n 2, 1) := by decide +kernel
theorem dX6_bytesTold_5 : decode cX6_bytesTold 5 = .ok (.iload_n 2, 1) := by decide +kernel
theorem dX6_bytesTold_6 : decode cX6_bytesTold 6 = .ok (.ifCond .lt 27, 3) := by decide +kernel
theorem dX6_bytesTold_9 : decode cX6_bytesTold 9 = .ok (.iload_n 1, 1) := by decide +kernel
theorem dX6_bytesTold_10 : decode cX6_bytesTold 10 = .ok (.iload_n 0, 1) := by decide +kernel
theorem dX6_bytesTold_11 : decode cX6_bytesTold 11 = .ok (.iload_n 2, 1) := by decide +kernel
theorem dX6_bytesTold_12 : decode cX6_bytesTold 12 = .ok (.ishr, 1) := by decide +kernel
theorem dX6_bytesTold_13 : decode cX6_bytesTold 13 = .ok (.sipush 255, 3) := by decide +kernel
theorem dX6_bytesTold_16 : decode cX6_bytesTold 16 = .ok (.iand, 1) := by decide +kernel
theorem dX6_bytesTold_17 : decode cX6_bytesTold 17 = .ok (.ifCond .eq 7, 3) := by decide +kernel
theorem dX6_bytesTold_20 : decode cX6_bytesTold 20 = .ok (.iconst 1, 1) := by decide +kernel
theorem dX6_bytesTold_21 : decode cX6_bytesTold 21 = .ok (.goto 4, 3) := by decide +kernel
theorem dX6_bytesTold_24 : decode cX6_bytesTold 24 = .ok (.iconst 0, 1) := by decide +kernel
theorem dX6_bytesTold_25 : decode cX6_bytesTold 25 = .ok (.iadd, 1) := by decide +kernel
theorem dX6_bytesTold_26 : decode cX6_bytesTold 26 = .ok (.istore_n 1, 1) := by decide +kernel
theorem dX6_bytesTold_27 : decode cX6_bytesTold 27 = .ok (.iinc 2 (-8), 3) := by decide +kernel
theorem dX6_bytesTold_30 : decode cX6_bytesTold 30 = .ok (.goto (-25), 3) := by decide +kernel
theorem dX6_bytesTold_33 : decode cX6_bytesTold 33 = .ok (.iload_n 1, 1) := by decide +kernel
theorem dX6_bytesTold_34 : decode cX6_bytesTold 34 = .ok (.ireturn, 1) := by decide +kernel
theorem dX6_append_0 : decode cX6_append 0 = .ok (.bipush 24, 2) := by decide +kernel
theorem dX6_append_2 : decode cX6_append 2 = .ok (.istore_n 2, 1) := by decide +kernel
theorem dX6_append_3 : decode cX6_append 3 = .ok (.iload_n 2, 1) := by decide +kernel
theorem dX6_append_4 : decode cX6_append 4 = .ok (.ifCond .lt 51, 3) := by decide +kernel
theorem dX6_append_7 : decode cX6_append 7 = .ok (.iload_n 1, 1) := by decide +kernel
theorem dX6_append_8 : decode cX6_append 8 = .ok (.iload_n 2, 1) := by decide +kernel
theorem dX6_append_9 : decode cX6_append 9 = .ok (.ishr, 1) := by decide +kernel
theorem dX6_append_10 : decode cX6_append 10 = .ok (.sipush 255, 3) := by decide +kernel
theorem dX6_append_13 : decode cX6_append 13 = .ok (.iand, 1) := by decide +kernel
theorem dX6_append_14 : decode cX6_append 14 = .ok (.istore_n 3, 1) := by decide +kernel
theorem dX6_append_15 : decode cX6_append 15 = .ok (.iload_n 3, 1) := by decide +kernel
theorem dX6_append_16 : decode cX6_append 16 = .ok (.ifCond .eq 33, 3) := by decide +kernel
theorem dX6_append_19 : decode cX6_append 19 = .ok (.aload_n 0, 1) := by decide +kernel
theorem dX6_append_20 : decode cX6_append 20 = .ok (.getfield 15, 3) := by decide +kernel
theorem dX6_append_23 : decode cX6_append 23 = .ok (.sipush 400, 3) := by decide +kernel
theorem dX6_append_26 : decode cX6_append 26 = .ok (.if_icmp .ge 23, 3) := by decide +kernel
theorem dX6_append_29 : decode cX6_append 29 = .ok (.aload_n 0, 1) := by decide +kernel
theorem dX6_append_30 : decode cX6_append 30 = .ok (.getfield 9, 3) := by decide +kernel
theorem dX6_append_33 : decode cX6_append 33 = .ok (.aload_n 0, 1) := by decide +kernel
theorem dX6_append_34 : decode cX6_append 34 = .ok (.getfield 15, 3) := by decide +kernel
theorem dX6_append_37 : decode cX6_append 37 = .ok (.iload_n 3, 1) := by decide +kernel
theorem dX6_append_38 : decode cX6_append 38 = .ok (.iastore, 1) := by decide +kernel
theorem dX6_append_39 : decode cX6_append 39 = .ok (.aload_n 0, 1) := by decide +kernel
theorem dX6_append_40 : decode cX6_append 40 = .ok (.dup, 1) := by decide +kernel
theorem dX6_append_41 : decode cX6_append 41 = .ok (.getfield 15, 3) := by decide +kernel
theorem dX6_append_44 : decode cX6_append 44 = .ok (.iconst 1, 1) := by decide +kernel
theorem dX6_append_45 : decode cX6_append 45 = .ok (.iadd, 1) := by decide +kernel
theorem dX6_append_46 : decode cX6_append 46 = .ok (.putfield 15, 3) := by decide +kernel
theorem dX6_append_49 : decode cX6_append 49 = .ok (.iinc 2 (-8), 3) := by decide +kernel
theorem dX6_append_52 : decode cX6_append 52 = .ok (.goto (-49), 3) := by decide +kernel
theorem dX6_append_55 : decode cX6_append 55 = .ok (.return_, 1) := by decide +kernel
theorem dX7_init_0 : decode cX7_init 0 = .ok (.aload_n 0, 1) := by decide +kernel
theorem dX7_init_1 : decode cX7_init 1 = .ok (.invokespecial 3, 3) := by decide +kernel
theorem dX7_init_4 : decode cX7_init 4 = .ok (.aload_n 0, 1) := by decide +kernel
theorem dX7_init_5 : decode cX7_init 5 = .ok (.aload_n 1, 1) := by decide +kernel
theorem dX7_init_6 : decode cX7_init 6 = .ok (.putfield 9, 3) := by decide +kernel
theorem dX7_init_9 : decode cX7_init 9 = .ok (.return_, 1) := by decide +kernel
theorem dX7_solve_0 : decode cX7_solve 0 = .ok (.aload_n 0, 1) := by decide +kernel
theorem dX7_solve_1 : decode cX7_solve 1 = .ok (.iload_n 1, 1) := by decide +kernel
theorem dX7_solve_2 : decode cX7_solve 2 = .ok (.lload_n 2, 1) := by decide +kernel
theorem dX7_solve_3 : decode cX7_solve 3 = .ok (.lload 4, 2) := by decide +kernel
theorem dX7_solve_5 : decode cX7_solve 5 = .ok (.lload 6, 2) := by decide +kernel
theorem dX7_solve_7 : decode cX7_solve 7 = .ok (.invokevirtual 15, 3) := by decide +kernel
theorem dX7_solve_10 : decode cX7_solve 10 = .ok (.ifCond .ne 5, 3) := by decide +kernel
theorem dX7_solve_13 : decode cX7_solve 13 = .ok (.iconst 0, 1) := by decide +kernel
theorem dX7_solve_14 : decode cX7_solve 14 = .ok (.ireturn, 1) := by decide +kernel
theorem dX7_solve_15 : decode cX7_solve 15 = .ok (.aload_n 0, 1) := by decide +kernel
theorem dX7_solve_16 : decode cX7_solve 16 = .ok (.iload_n 1, 1) := by decide +kernel
theorem dX7_solve_17 : decode cX7_solve 17 = .ok (.lload_n 2, 1) := by decide +kernel
theorem dX7_solve_18 : decode cX7_solve 18 = .ok (.lload 4, 2) := by decide +kernel
theorem dX7_solve_20 : decode cX7_solve 20 = .ok (.lload 6, 2) := by decide +kernel
theorem dX7_solve_22 : decode cX7_solve 22 = .ok (.invokevirtual 19, 3) := by decide +kernel
theorem dX7_solve_25 : decode cX7_solve 25 = .ok (.aload_n 0, 1) := by decide +kernel
theorem dX7_solve_26 : decode cX7_solve 26 = .ok (.iload_n 1, 1) := by decide +kernel
theorem dX7_solve_27 : decode cX7_solve 27 = .ok (.aload_n 0, 1) := by decide +kernel
theorem dX7_solve_28 : decode cX7_solve 28 = .ok (.getfield 9, 3) := by decide +kernel
theorem dX7_solve_31 : decode cX7_solve 31 = .ok (.getfield 23, 3) := by decide +kernel
theorem dX7_solve_34 : decode cX7_solve 34 = .ok (.invokevirtual 29, 3) := by decide +kernel
theorem dX7_solve_37 : decode cX7_solve 37 = .ok (.aload_n 0, 1) := by decide +kernel
theorem dX7_solve_38 : decode cX7_solve 38 = .ok (.iload_n 1, 1) := by decide +kernel
theorem dX7_solve_39 : decode cX7_solve 39 = .ok (.invokevirtual 33, 3) := by decide +kernel
theorem dX7_solve_42 : decode cX7_solve 42 = .ok (.iconst 1, 1) := by decide +kernel
theorem dX7_solve_43 : decode cX7_solve 43 = .ok (.ireturn, 1) := by decide +kernel
theorem dX7_answer_0 : decode cX7_answer 0 = .ok (.iload_n 1, 1) := by decide +kernel
theorem dX7_answer_1 : decode cX7_answer 1 = .ok (.ifCond .ne 10, 3) := by decide +kernel
theorem dX7_answer_4 : decode cX7_answer 4 = .ok (.aload_n 0, 1) := by decide +kernel
theorem dX7_answer_5 : decode cX7_answer 5 = .ok (.getfield 37, 3) := by decide +kernel
theorem dX7_answer_8 : decode cX7_answer 8 = .ok (.goto 7, 3) := by decide +kernel
theorem dX7_answer_11 : decode cX7_answer 11 = .ok (.aload_n 0, 1) := by decide +kernel
theorem dX7_answer_12 : decode cX7_answer 12 = .ok (.getfield 41, 3) := by decide +kernel
theorem dX7_answer_15 : decode cX7_answer 15 = .ok (.lreturn, 1) := by decide +kernel
theorem dX7_fits_0 : decode cX7_fits 0 = .ok (.getstatic 44, 3) := by decide +kernel
theorem dX7_fits_3 : decode cX7_fits 3 = .ok (.getstatic 50, 3) := by decide +kernel
theorem dX7_fits_6 : decode cX7_fits 6 = .ok (.iload_n 1, 1) := by decide +kernel
theorem dX7_fits_7 : decode cX7_fits 7 = .ok (.aaload, 1) := by decide +kernel
theorem dX7_fits_8 : decode cX7_fits 8 = .ok (.invokevirtual 54, 3) := by decide +kernel
theorem dX7_fits_11 : decode cX7_fits 11 = .ok (.iaload, 1) := by decide +kernel
theorem dX7_fits_12 : decode cX7_fits 12 = .ok (.tableswitch 206 1 7 #[44, 51, 89, 114, 157, 164, 171], 44) := by decide +kernel
theorem dX7_fits_56 : decode cX7_fits 56 = .ok (.aload_n 0, 1) := by decide +kernel
theorem dX7_fits_57 : decode cX7_fits 57 = .ok (.lload_n 2, 1) := by decide +kernel
theorem dX7_fits_58 : decode cX7_fits 58 = .ok (.iconst 5, 1) := by decide +kernel
theorem dX7_fits_59 : decode cX7_fits 59 = .ok (.invokevirtual 60, 3) := by decide +kernel
theorem dX7_fits_62 : decode cX7_fits 62 = .ok (.ireturn, 1) := by decide +kernel
theorem dX7_fits_63 : decode cX7_fits 63 = .ok (.aload_n 0, 1) := by decide +kernel
theorem dX7_fits_64 : decode cX7_fits 64 = .ok (.lload_n 2, 1) := by decide +kernel
theorem dX7_fits_65 : decode cX7_fits 65 = .ok (.iconst 5, 1) := by decide +kernel
theorem dX7_fits_66 : decode cX7_fits 66 = .ok (.invokevirtual 60, 3) := by decide +kernel
theorem dX7_fits_69 : decode cX7_fits 69 = .ok (.ifCond .eq 30, 3) := by decide +kernel
theorem dX7_fits_72 : decode cX7_fits 72 = .ok (.aload_n 0, 1) := by decide +kernel
theorem dX7_fits_73 : decode cX7_fits 73 = .ok (.lload 4, 2) := by decide +kernel
theorem dX7_fits_75 : decode cX7_fits 75 = .ok (.iconst 5, 1) := by decide +kernel
theorem dX7_fits_76 : decode cX7_fits 76 = .ok (.invokevirtual 60, 3) := by decide +kernel
theorem dX7_fits_79 : decode cX7_fits 79 = .ok (.ifCond .eq 20, 3) := by decide +kernel
theorem dX7_fits_82 : decode cX7_fits 82 = .ok (.lload_n 2, 1) := by decide +kernel
theorem dX7_fits_83 : decode cX7_fits 83 = .ok (.lconst 0, 1) := by decide +kernel
theorem dX7_fits_84 : decode cX7_fits 84 = .ok (.lcmp, 1) := by decide +kernel
theorem dX7_fits_85 : decode cX7_fits 85 = .ok (.ifCond .ne 10, 3) := by decide +kernel
theorem dX7_fits_88 : decode cX7_fits 88 = .ok (.lload 4, 2) := by decide +kernel
theorem dX7_fits_90 : decode cX7_fits 90 = .ok (.lconst 0, 1) := by decide +kernel
theorem dX7_fits_91 : decode cX7_fits 91 = .ok (.lcmp, 1) := by decide +kernel
theorem dX7_fits_92 : decode cX7_fits 92 = .ok (.ifCond .eq 7, 3) := by decide +kernel
theorem dX7_fits_95 : decode cX7_fits 95 = .ok (.iconst 1, 1) := by decide +kernel
theorem dX7_fits_96 : decode cX7_fits 96 = .ok (.goto 4, 3) := by decide +kernel
theorem dX7_fits_99 : decode cX7_fits 99 = .ok (.iconst 0, 1) := by decide +kernel
theorem dX7_fits_100 : decode cX7_fits 100 = .ok (.ireturn, 1) := by decide +kernel
theorem dX7_fits_101 : decode cX7_fits 101 = .ok (.aload_n 0, 1) := by decide +kernel
theorem dX7_fits_102 : decode cX7_fits 102 = .ok (.lload_n 2, 1) := by decide +kernel
theorem dX7_fits_103 : decode cX7_fits 103 = .ok (.iconst 4, 1) := by decide +kernel
theorem dX7_fits_104 : decode cX7_fits 104 = .ok (.invokevirtual 60, 3) := by decide +kernel
theorem dX7_fits_107 : decode cX7_fits 107 = .ok (.ifCond .eq 17, 3) := by decide +kernel
theorem dX7_fits_110 : decode cX7_fits 110 = .ok (.aload_n 0, 1) := by decide +kernel
theorem dX7_fits_111 : decode cX7_fits 111 = .ok (.lload 4, 2) := by decide +kernel
theorem dX7_fits_113 : decode cX7_fits 113 = .ok (.iconst 4, 1) := by decide +kernel
theorem dX7_fits_114 : decode cX7_fits 114 = .ok (.invokevirtual 60, 3) := by decide +kernel
theorem dX7_fits_117 : decode cX7_fits 117 = .ok (.ifCond .eq 7, 3) := by decide +kernel
theorem dX7_fits_120 : decode cX7_fits 120 = .ok (.iconst 1, 1) := by decide +kernel
theorem dX7_fits_121 : decode cX7_fits 121 = .ok (.goto 4, 3) := by decide +kernel
theorem dX7_fits_124 : decode cX7_fits 124 = .ok (.iconst 0, 1) := by decide +kernel
theorem dX7_fits_125 : decode cX7_fits 125 = .ok (.ireturn, 1) := by decide +kernel
theorem dX7_fits_126 : decode cX7_fits 126 = .ok (.aload_n 0, 1) := by decide +kernel
theorem dX7_fits_127 : decode cX7_fits 127 = .ok (.lload_n 2, 1) := by decide +kernel
theorem dX7_fits_128 : decode cX7_fits 128 = .ok (.iconst 4, 1) := by decide +kernel
theorem dX7_fits_129 : decode cX7_fits 129 = .ok (.invokevirtual 60, 3) := by decide +kernel
theorem dX7_fits_132 : decode cX7_fits 132 = .ok (.ifCond .eq 35, 3) := by decide +kernel
theorem dX7_fits_135 : decode cX7_fits 135 = .ok (.aload_n 0, 1) := by decide +kernel
theorem dX7_fits_136 : decode cX7_fits 136 = .ok (.lload 4, 2) := by decide +kernel
theorem dX7_fits_138 : decode cX7_fits 138 = .ok (.iconst 4, 1) := by decide +kernel
theorem dX7_fits_139 : decode cX7_fits 139 = .ok (.invokevirtual 60, 3) := by decide +kernel
theorem dX7_fits_142 : decode cX7_fits 142 = .ok (.ifCond .eq 25, 3) := by decide +kernel
theorem dX7_fits_145 : decode cX7_fits 145 = .ok (.lload 4, 2) := by decide +kernel
theorem dX7_fits_147 : decode cX7_fits 147 = .ok (.lconst 0, 1) := by decide +kernel
theorem dX7_fits_148 : decode cX7_fits 148 = .ok (.lcmp, 1) := by decide +kernel
theorem dX7_fits_149 : decode cX7_fits 149 = .ok (.ifCond .eq 18, 3) := by decide +kernel
theorem dX7_fits_152 : decode cX7_fits 152 = .ok (.lload_n 2, 1) := by decide +kernel
theorem dX7_fits_153 : decode cX7_fits 153 = .ok (.lload 4, 2) := by decide +kernel
theorem dX7_fits_155 : decode cX7_fits 155 = .ok (.invokestatic 64, 3) := by decide +kernel
theorem dX7_fits_158 : decode cX7_fits 158 = .ok (.bipush 6, 2) := by decide +kernel
theorem dX7_fits_160 : decode cX7_fits 160 = .ok (.if_icmp .gt 7, 3) := by decide +kernel
theorem dX7_fits_163 : decode cX7_fits 163 = .ok (.iconst 1, 1) := by decide +kernel
theorem dX7_fits_164 : decode cX7_fits 164 = .ok (.goto 4, 3) := by decide +kernel
theorem dX7_fits_167 : decode cX7_fits 167 = .ok (.iconst 0, 1) := by decide +kernel
theorem dX7_fits_168 : decode cX7_fits 168 = .ok (.ireturn, 1) := by decide +kernel
theorem dX7_fits_169 : decode cX7_fits 169 = .ok (.aload_n 0, 1) := by decide +kernel
theorem dX7_fits_170 : decode cX7_fits 170 = .ok (.lload_n 2, 1) := by decide +kernel
theorem dX7_fits_171 : decode cX7_fits 171 = .ok (.iconst 0, 1) := by decide +kernel
theorem dX7_fits_172 : decode cX7_fits 172 = .ok (.invokevirtual 60, 3) := by decide +kernel
theorem dX7_fits_175 : decode cX7_fits 175 = .ok (.ireturn, 1) := by decide +kernel
theorem dX7_fits_176 : decode cX7_fits 176 = .ok (.aload_n 0, 1) := by decide +kernel
theorem dX7_fits_177 : decode cX7_fits 177 = .ok (.lload_n 2, 1) := by decide +kernel
theorem dX7_fits_178 : decode cX7_fits 178 = .ok (.iconst 2, 1) := by decide +kernel
theorem dX7_fits_179 : decode cX7_fits 179 = .ok (.invokevirtual 60, 3) := by decide +kernel
theorem dX7_fits_182 : decode cX7_fits 182 = .ok (.ireturn, 1) := by decide +kernel
theorem dX7_fits_183 : decode cX7_fits 183 = .ok (.aload_n 0, 1) := by decide +kernel
theorem dX7_fits_184 : decode cX7_fits 184 = .ok (.lload_n 2, 1) := by decide +kernel
theorem dX7_fits_185 : decode cX7_fits 185 = .ok (.iconst 4, 1) := by decide +kernel
theorem dX7_fits_186 : decode cX7_fits 186 = .ok (.invokevirtual 60, 3) := by decide +kernel
theorem dX7_fits_189 : decode cX7_fits 189 = .ok (.ifCond .eq 27, 3) := by decide +kernel
theorem dX7_fits_192 : decode cX7_fits 192 = .ok (.aload_n 0, 1) := by decide +kernel
theorem dX7_fits_193 : decode cX7_fits 193 = .ok (.lload 4, 2) := by decide +kernel
theorem dX7_fits_195 : decode cX7_fits 195 = .ok (.iconst 4, 1) := by decide +kernel
theorem dX7_fits_196 : decode cX7_fits 196 = .ok (.invokevirtual 60, 3) := by decide +kernel
theorem dX7_fits_199 : decode cX7_fits 199 = .ok (.ifCond .eq 17, 3) := by decide +kernel
theorem dX7_fits_202 : decode cX7_fits 202 = .ok (.aload_n 0, 1) := by decide +kernel
theorem dX7_fits_203 : decode cX7_fits 203 = .ok (.lload 6, 2) := by decide +kernel
theorem dX7_fits_205 : decode cX7_fits 205 = .ok (.iconst 5, 1) := by decide +kernel
theorem dX7_fits_206 : decode cX7_fits 206 = .ok (.invokevirtual 60, 3) := by decide +kernel
theorem dX7_fits_209 : decode cX7_fits 209 = .ok (.ifCond .eq 7, 3) := by decide +kernel
theorem dX7_fits_212 : decode cX7_fits 212 = .ok (.iconst 1, 1) := by decide +kernel
theorem dX7_fits_213 : decode cX7_fits 213 = .ok (.goto 4, 3) := by decide +kernel
theorem dX7_fits_216 : decode cX7_fits 216 = .ok (.iconst 0, 1) := by decide +kernel
theorem dX7_fits_217 : decode cX7_fits 217 = .ok (.ireturn, 1) := by decide +kernel
theorem dX7_fits_218 : decode cX7_fits 218 = .ok (.lload_n 2, 1) := by decide +kernel
theorem dX7_fits_219 : decode cX7_fits 219 = .ok (.lconst 0, 1) := by decide +kernel
theorem dX7_fits_220 : decode cX7_fits 220 = .ok (.lcmp, 1) := by decide +kernel
theorem dX7_fits_221 : decode cX7_fits 221 = .ok (.ifCond .le 16, 3) := by decide +kernel
theorem dX7_fits_224 : decode cX7_fits 224 = .ok (.aload_n 0, 1) := by decide +kernel
theorem dX7_fits_225 : decode cX7_fits 225 = .ok (.lload_n 2, 1) := by decide +kernel
theorem dX7_fits_226 : decode cX7_fits 226 = .ok (.iconst 5, 1) := by decide +kernel
theorem dX7_fits_227 : decode cX7_fits 227 = .ok (.invokevirtual 60, 3) := by decide +kernel
theorem dX7_fits_230 : decode cX7_fits 230 = .ok (.ifCond .eq 7, 3) := by decide +kernel
theorem dX7_fits_233 : decode cX7_fits 233 = .ok (.iconst 1, 1) := by decide +kernel
theorem dX7_fits_234 : decode cX7_fits 234 = .ok (.goto 4, 3) := by decide +kernel
theorem dX7_fits_237 : decode cX7_fits 237 = .ok (.iconst 0, 1) := by decide +kernel
theorem dX7_fits_238 : decode cX7_fits 238 = .ok (.ireturn, 1) := by decide +kernel
theorem dX7_isTo_0 : decode cX7_isTo 0 = .ok (.lconst 1, 1) := by decide +kernel
theorem dX7_isTo_1 : decode cX7_isTo 1 = .ok (.aload_n 0, 1) := by decide +kernel
theorem dX7_isTo_2 : decode cX7_isTo 2 = .ok (.getfield 9, 3) := by decide +kernel
theorem dX7_isTo_5 : decode cX7_isTo 5 = .ok (.getfield 68, 3) := by decide +kernel
theorem dX7_isTo_8 : decode cX7_isTo 8 = .ok (.iload_n 3, 1) := by decide +kernel
theorem dX7_isTo_9 : decode cX7_isTo 9 = .ok (.iadd, 1) := by decide +kernel
theorem dX7_isTo_10 : decode cX7_isTo 10 = .ok (.lshl, 1) := by decide +kernel
theorem dX7_isTo_11 : decode cX7_isTo 11 = .ok (.lstore 4, 2) := by decide +kernel
theorem dX7_isTo_13 : decode cX7_isTo 13 = .ok (.lload_n 1, 1) := by decide +kernel
theorem dX7_isTo_14 : decode cX7_isTo 14 = .ok (.lload 4, 2) := by decide +kernel
theorem dX7_isTo_16 : decode cX7_isTo 16 = .ok (.lneg, 1) := by decide +kernel
theorem dX7_isTo_17 : decode cX7_isTo 17 = .ok (.lcmp, 1) := by decide +kernel
theorem dX7_isTo_18 : decode cX7_isTo 18 = .ok (.ifCond .lt 14, 3) := by decide +kernel
theorem dX7_isTo_21 : decode cX7_isTo 21 = .ok (.lload_n 1, 1) := by decide +kernel
theorem dX7_isTo_22 : decode cX7_isTo 22 = .ok (.lload 4, 2) := by decide +kernel
theorem dX7_isTo_24 : decode cX7_isTo 24 = .ok (.lcmp, 1) := by decide +kernel
theorem dX7_isTo_25 : decode cX7_isTo 25 = .ok (.ifCond .gt 7, 3) := by decide +kernel
theorem dX7_isTo_28 : decode cX7_isTo 28 = .ok (.iconst 1, 1) := by decide +kernel
theorem dX7_isTo_29 : decode cX7_isTo 29 = .ok (.goto 4, 3) := by decide +kernel
theorem dX7_isTo_32 : decode cX7_isTo 32 = .ok (.iconst 0, 1) := by decide +kernel
theorem dX7_isTo_33 : decode cX7_isTo 33 = .ok (.ireturn, 1) := by decide +kernel
theorem dX7_stepsOver_0 : decode cX7_stepsOver 0 = .ok (.iconst 0, 1) := by decide +kernel
theorem dX7_stepsOver_1 : decode cX7_stepsOver 1 = .ok (.istore 4, 2) := by decide +kernel
theorem dX7_stepsOver_3 : decode cX7_stepsOver 3 = .ok (.iload 4, 2) := by decide +kernel
theorem dX7_stepsOver_5 : decode cX7_stepsOver 5 = .ok (.bipush 7, 2) := by decide +kernel
theorem dX7_stepsOver_7 : decode cX7_stepsOver 7 = .ok (.if_icmp .ge 24, 3) := by decide +kernel
theorem dX7_stepsOver_10 : decode cX7_stepsOver 10 = .ok (.lload_n 0, 1) := by decide +kernel
theorem dX7_stepsOver_11 : decode cX7_stepsOver 11 = .ok (.invokestatic 71, 3) := by decide +kernel
theorem dX7_stepsOver_14 : decode cX7_stepsOver 14 = .ok (.lload_n 2, 1) := by decide +kernel
theorem dX7_stepsOver_15 : decode cX7_stepsOver 15 = .ok (.invokestatic 71, 3) := by decide +kernel
theorem dX7_stepsOver_18 : decode cX7_stepsOver 18 = .ok (.iload 4, 2) := by decide +kernel
theorem dX7_stepsOver_20 : decode cX7_stepsOver 20 = .ok (.lshl, 1) := by decide +kernel
theorem dX7_stepsOver_21 : decode cX7_stepsOver 21 = .ok (.lcmp, 1) := by decide +kernel
theorem dX7_stepsOver_22 : decode cX7_stepsOver 22 = .ok (.ifCond .le 9, 3) := by decide +kernel
theorem dX7_stepsOver_25 : decode cX7_stepsOver 25 = .ok (.iinc 4 1, 3) := by decide +kernel
theorem dX7_stepsOver_28 : decode cX7_stepsOver 28 = .ok (.goto (-25), 3) := by decide +kernel
theorem dX7_stepsOver_31 : decode cX7_stepsOver 31 = .ok (.iload 4, 2) := by decide +kernel
theorem dX7_stepsOver_33 : decode cX7_stepsOver 33 = .ok (.ireturn, 1) := by decide +kernel
theorem dX7_begin_0 : decode cX7_begin 0 = .ok (.lload_n 2, 1) := by decide +kernel
theorem dX7_begin_1 : decode cX7_begin 1 = .ok (.aload_n 0, 1) := by decide +kernel
theorem dX7_begin_2 : decode cX7_begin 2 = .ok (.getfield 9, 3) := by decide +kernel
theorem dX7_begin_5 : decode cX7_begin 5 = .ok (.getfield 77, 3) := by decide +kernel
theorem dX7_begin_8 : decode cX7_begin 8 = .ok (.lshl, 1) := by decide +kernel
theorem dX7_begin_9 : decode cX7_begin 9 = .ok (.lstore 8, 2) := by decide +kernel
theorem dX7_begin_11 : decode cX7_begin 11 = .ok (.lload 4, 2) := by decide +kernel
theorem dX7_begin_13 : decode cX7_begin 13 = .ok (.aload_n 0, 1) := by decide +kernel
theorem dX7_begin_14 : decode cX7_begin 14 = .ok (.getfield 9, 3) := by decide +kernel
theorem dX7_begin_17 : decode cX7_begin 17 = .ok (.getfield 77, 3) := by decide +kernel
theorem dX7_begin_20 : decode cX7_begin 20 = .ok (.lshl, 1) := by decide +kernel
theorem dX7_begin_21 : decode cX7_begin 21 = .ok (.lstore 10, 2) := by decide +kernel
theorem dX7_begin_23 : decode cX7_begin 23 = .ok (.lconst 1, 1) := by decide +kernel
theorem dX7_begin_24 : decode cX7_begin 24 = .ok (.aload_n 0, 1) := by decide +kernel
theorem dX7_begin_25 : decode cX7_begin 25 = .ok (.getfield 9, 3) := by decide +kernel
theorem dX7_begin_28 : decode cX7_begin 28 = .ok (.getfield 80, 3) := by decide +kernel
theorem dX7_begin_31 : decode cX7_begin 31 = .ok (.lshl, 1) := by decide +kernel
theorem dX7_begin_32 : decode cX7_begin 32 = .ok (.lstore 12, 2) := by decide +kernel
theorem dX7_begin_34 : decode cX7_begin 34 = .ok (.aload_n 0, 1) := by decide +kernel
theorem dX7_begin_35 : decode cX7_begin 35 = .ok (.iconst 0, 1) := by decide +kernel
theorem dX7_begin_36 : decode cX7_begin 36 = .ok (.putfield 83, 3) := by decide +kernel
theorem dX7_begin_39 : decode cX7_begin 39 = .ok (.aload_n 0, 1) := by decide +kernel
theorem dX7_begin_40 : decode cX7_begin 40 = .ok (.iconst 0, 1) := by decide +kernel
theorem dX7_begin_41 : decode cX7_begin 41 = .ok (.putfield 86, 3) := by decide +kernel
theorem dX7_begin_44 : decode cX7_begin 44 = .ok (.getstatic 44, 3) := by decide +kernel
theorem dX7_begin_47 : decode cX7_begin 47 = .ok (.getstatic 50, 3) := by decide +kernel
theorem dX7_begin_50 : decode cX7_begin 50 = .ok (.iload_n 1, 1) := by decide +kernel
theorem dX7_begin_51 : decode cX7_begin 51 = .ok (.aaload, 1) := by decide +kernel
theorem dX7_begin_52 : decode cX7_begin 52 = .ok (.invokevirtual 54, 3) := by decide +kernel
theorem dX7_begin_55 : decode cX7_begin 55 = .ok (.iaload, 1) := by decide +kernel
theorem dX7_begin_56 : decode cX7_begin 56 = .ok (.tableswitch 244 1 9 #[52, 77, 88, 99, 110, 129, 244, 154, 196], 52) := by decide +kernel
theorem dX7_begin_108 : decode cX7_begin 108 = .ok (.aload_n 0, 1) := by decide +kernel
theorem dX7_begin_109 : decode cX7_begin 109 = .ok (.aload_n 0, 1) := by decide +kernel
theorem dX7_begin_110 : decode cX7_begin 110 = .ok (.getfield 9, 3) := by decide +kernel
theorem dX7_begin_113 : decode cX7_begin 113 = .ok (.getfield 89, 3) := by decide +kernel
theorem dX7_begin_116 : decode cX7_begin 116 = .ok (.iconst 0, 1) := by decide +kernel
theorem dX7_begin_117 : decode cX7_begin 117 = .ok (.laload, 1) := by decide +kernel
theorem dX7_begin_118 : decode cX7_begin 118 = .ok (.lload 8, 2) := by decide +kernel
theorem dX7_begin_120 : decode cX7_begin 120 = .ok (.aload_n 0, 1) := by decide +kernel
theorem dX7_begin_121 : decode cX7_begin 121 = .ok (.getfield 9, 3) := by decide +kernel
theorem dX7_begin_124 : decode cX7_begin 124 = .ok (.getfield 93, 3) := by decide +kernel
theorem dX7_begin_127 : decode cX7_begin 127 = .ok (.invokevirtual 96, 3) := by decide +kernel
theorem dX7_begin_130 : decode cX7_begin 130 = .ok (.goto 188, 3) := by decide +kernel
theorem dX7_begin_133 : decode cX7_begin 133 = .ok (.aload_n 0, 1) := by decide +kernel
theorem dX7_begin_134 : decode cX7_begin 134 = .ok (.lload 8, 2) := by decide +kernel
theorem dX7_begin_136 : decode cX7_begin 136 = .ok (.lload 10, 2) := by decide +kernel
theorem dX7_begin_138 : decode cX7_begin 138 = .ok (.invokevirtual 100, 3) := by decide +kernel
theorem dX7_begin_141 : decode cX7_begin 141 = .ok (.goto 177, 3) := by decide +kernel
theorem dX7_begin_144 : decode cX7_begin 144 = .ok (.aload_n 0, 1) := by decide +kernel
theorem dX7_begin_145 : decode cX7_begin 145 = .ok (.lload 8, 2) := by decide +kernel
theorem dX7_begin_147 : decode cX7_begin 147 = .ok (.lload 10, 2) := by decide +kernel
theorem dX7_begin_149 : decode cX7_begin 149 = .ok (.invokevirtual 104, 3) := by decide +kernel
theorem dX7_begin_152 : decode cX7_begin 152 = .ok (.goto 166, 3) := by decide +kernel
theorem dX7_begin_155 : decode cX7_begin 155 = .ok (.aload_n 0, 1) := by decide +kernel
theorem dX7_begin_156 : decode cX7_begin 156 = .ok (.lload 8, 2) := by decide +kernel
theorem dX7_begin_158 : decode cX7_begin 158 = .ok (.lload 10, 2) := by decide +kernel
theorem dX7_begin_160 : decode cX7_begin 160 = .ok (.invokevirtual 107, 3) := by decide +kernel
theorem dX7_begin_163 : decode cX7_begin 163 = .ok (.goto 155, 3) := by decide +kernel
theorem dX7_begin_166 : decode cX7_begin 166 = .ok (.aload_n 0, 1) := by decide +kernel
theorem dX7_begin_167 : decode cX7_begin 167 = .ok (.aload_n 0, 1) := by decide +kernel
theorem dX7_begin_168 : decode cX7_begin 168 = .ok (.getfield 9, 3) := by decide +kernel
theorem dX7_begin_171 : decode cX7_begin 171 = .ok (.getfield 89, 3) := by decide +kernel
theorem dX7_begin_174 : decode cX7_begin 174 = .ok (.iconst 2, 1) := by decide +kernel
theorem dX7_begin_175 : decode cX7_begin 175 = .ok (.laload, 1) := by decide +kernel
theorem dX7_begin_176 : decode cX7_begin 176 = .ok (.lconst 0, 1) := by decide +kernel
theorem dX7_begin_177 : decode cX7_begin 177 = .ok (.lload 8, 2) := by decide +kernel
theorem dX7_begin_179 : decode cX7_begin 179 = .ok (.invokevirtual 110, 3) := by decide +kernel
theorem dX7_begin_182 : decode cX7_begin 182 = .ok (.goto 136, 3) := by decide +kernel
theorem dX7_begin_185 : decode cX7_begin 185 = .ok (.aload_n 0, 1) := by decide +kernel
theorem dX7_begin_186 : decode cX7_begin 186 = .ok (.aload_n 0, 1) := by decide +kernel
theorem dX7_begin_187 : decode cX7_begin 187 = .ok (.getfield 9, 3) := by decide +kernel
theorem dX7_begin_190 : decode cX7_begin 190 = .ok (.getfield 89, 3) := by decide +kernel
theorem dX7_begin_193 : decode cX7_begin 193 = .ok (.iconst 2, 1) := by decide +kernel
theorem dX7_begin_194 : decode cX7_begin 194 = .ok (.laload, 1) := by decide +kernel
theorem dX7_begin_195 : decode cX7_begin 195 = .ok (.lload 8, 2) := by decide +kernel
theorem dX7_begin_197 : decode cX7_begin 197 = .ok (.aload_n 0, 1) := by decide +kernel
theorem dX7_begin_198 : decode cX7_begin 198 = .ok (.getfield 9, 3) := by decide +kernel
theorem dX7_begin_201 : decode cX7_begin 201 = .ok (.getfield 113, 3) := by decide +kernel
theorem dX7_begin_204 : decode cX7_begin 204 = .ok (.invokevirtual 96, 3) := by decide +kernel
theorem dX7_begin_207 : decode cX7_begin 207 = .ok (.goto 111, 3) := by decide +kernel
theorem dX7_begin_210 : decode cX7_begin 210 = .ok (.aload_n 0, 1) := by decide +kernel
theorem dX7_begin_211 : decode cX7_begin 211 = .ok (.lload 8, 2) := by decide +kernel
theorem dX7_begin_213 : decode cX7_begin 213 = .ok (.invokestatic 116, 3) := by decide +kernel
theorem dX7_begin_216 : decode cX7_begin 216 = .ok (.aload_n 0, 1) := by decide +kernel
theorem dX7_begin_217 : decode cX7_begin 217 = .ok (.getfield 9, 3) := by decide +kernel
theorem dX7_begin_220 : decode cX7_begin 220 = .ok (.getfield 80, 3) := by decide +kernel
theorem dX7_begin_223 : decode cX7_begin 223 = .ok (.isub, 1) := by decide +kernel
theorem dX7_begin_224 : decode cX7_begin 224 = .ok (.iconst 1, 1) := by decide +kernel
theorem dX7_begin_225 : decode cX7_begin 225 = .ok (.iadd, 1) := by decide +kernel
theorem dX7_begin_226 : decode cX7_begin 226 = .ok (.putfield 86, 3) := by decide +kernel
theorem dX7_begin_229 : decode cX7_begin 229 = .ok (.aload_n 0, 1) := by decide +kernel
theorem dX7_begin_230 : decode cX7_begin 230 = .ok (.aload_n 0, 1) := by decide +kernel
theorem dX7_begin_231 : decode cX7_begin 231 = .ok (.getfield 9, 3) := by decide +kernel
theorem dX7_begin_234 : decode cX7_begin 234 = .ok (.lload 8, 2) := by decide +kernel
theorem dX7_begin_236 : decode cX7_begin 236 = .ok (.aload_n 0, 1) := by decide +kernel
theorem dX7_begin_237 : decode cX7_begin 237 = .ok (.getfield 86, 3) := by decide +kernel
theorem dX7_begin_240 : decode cX7_begin 240 = .ok (.ineg, 1) := by decide +kernel
theorem dX7_begin_241 : decode cX7_begin 241 = .ok (.invokevirtual 120, 3) := by decide +kernel
theorem dX7_begin_244 : decode cX7_begin 244 = .ok (.lload 12, 2) := by decide +kernel
theorem dX7_begin_246 : decode cX7_begin 246 = .ok (.invokevirtual 124, 3) := by decide +kernel
theorem dX7_begin_249 : decode cX7_begin 249 = .ok (.goto 69, 3) := by decide +kernel
theorem dX7_begin_252 : decode cX7_begin 252 = .ok (.aload_n 0, 1) := by decide +kernel
theorem dX7_begin_253 : decode cX7_begin 253 = .ok (.lload 8, 2) := by decide +kernel
theorem dX7_begin_255 : decode cX7_begin 255 = .ok (.invokestatic 116, 3) := by decide +kernel
theorem dX7_begin_258 : decode cX7_begin 258 = .ok (.aload_n 0, 1) := by decide +kernel
theorem dX7_begin_259 : decode cX7_begin 259 = .ok (.getfield 9, 3) := by decide +kernel
theorem dX7_begin_262 : decode cX7_begin 262 = .ok (.getfield 80, 3) := by decide +kernel
theorem dX7_begin_265 : decode cX7_begin 265 = .ok (.isub, 1) := by decide +kernel
theorem dX7_begin_266 : decode cX7_begin 266 = .ok (.iconst 2, 1) := by decide +kernel
theorem dX7_begin_267 : decode cX7_begin 267 = .ok (.iadd, 1) := by decide +kernel
theorem dX7_begin_268 : decode cX7_begin 268 = .ok (.iconst 1, 1) := by decide +kernel
theorem dX7_begin_269 : decode cX7_begin 269 = .ok (.ishr, 1) := by decide +kernel
theorem dX7_begin_270 : decode cX7_begin 270 = .ok (.putfield 86, 3) := by decide +kernel
theorem dX7_begin_273 : decode cX7_begin 273 = .ok (.aload_n 0, 1) := by decide +kernel
theorem dX7_begin_274 : decode cX7_begin 274 = .ok (.aload_n 0, 1) := by decide +kernel
theorem dX7_begin_275 : decode cX7_begin 275 = .ok (.getfield 9, 3) := by decide +kernel
theorem dX7_begin_278 : decode cX7_begin 278 = .ok (.lload 8, 2) := by decide +kernel
theorem dX7_begin_280 : decode cX7_begin 280 = .ok (.bipush (-2), 2) := by decide +kernel
theorem dX7_begin_282 : decode cX7_begin 282 = .ok (.aload_n 0, 1) := by decide +kernel
theorem dX7_begin_283 : decode cX7_begin 283 = .ok (.getfield 86, 3) := by decide +kernel
theorem dX7_begin_286 : decode cX7_begin 286 = .ok (.imul, 1) := by decide +kernel
theorem dX7_begin_287 : decode cX7_begin 287 = .ok (.invokevirtual 120, 3) := by decide +kernel
theorem dX7_begin_290 : decode cX7_begin 290 = .ok (.lload 12, 2) := by decide +kernel
theorem dX7_begin_292 : decode cX7_begin 292 = .ok (.iconst 2, 1) := by decide +kernel
theorem dX7_begin_293 : decode cX7_begin 293 = .ok (.lshr, 1) := by decide +kernel
theorem dX7_begin_294 : decode cX7_begin 294 = .ok (.invokevirtual 124, 3) := by decide +kernel
theorem dX7_begin_297 : decode cX7_begin 297 = .ok (.goto 21, 3) := by decide +kernel
theorem dX7_begin_300 : decode cX7_begin 300 = .ok (.aload_n 0, 1) := by decide +kernel
theorem dX7_begin_301 : decode cX7_begin 301 = .ok (.lload 8, 2) := by decide +kernel
theorem dX7_begin_303 : decode cX7_begin 303 = .ok (.lload 10, 2) := by decide +kernel
theorem dX7_begin_305 : decode cX7_begin 305 = .ok (.lload 6, 2) := by decide +kernel
theorem dX7_begin_307 : decode cX7_begin 307 = .ok (.aload_n 0, 1) := by decide +kernel
theorem dX7_begin_308 : decode cX7_begin 308 = .ok (.getfield 9, 3) := by decide +kernel
theorem dX7_begin_311 : decode cX7_begin 311 = .ok (.getfield 77, 3) := by decide +kernel
theorem dX7_begin_314 : decode cX7_begin 314 = .ok (.lshl, 1) := by decide +kernel
theorem dX7_begin_315 : decode cX7_begin 315 = .ok (.invokevirtual 127, 3) := by decide +kernel
theorem dX7_begin_318 : decode cX7_begin 318 = .ok (.return_, 1) := by decide +kernel
theorem dX7_put_0 : decode cX7_put 0 = .ok (.aload_n 0, 1) := by decide +kernel
theorem dX7_put_1 : decode cX7_put 1 = .ok (.lload_n 1, 1) := by decide +kernel
theorem dX7_put_2 : decode cX7_put 2 = .ok (.putfield 130, 3) := by decide +kernel
theorem dX7_put_5 : decode cX7_put 5 = .ok (.aload_n 0, 1) := by decide +kernel
theorem dX7_put_6 : decode cX7_put 6 = .ok (.lload_n 3, 1) := by decide +kernel
theorem dX7_put_7 : decode cX7_put 7 = .ok (.putfield 133, 3) := by decide +kernel
theorem dX7_put_10 : decode cX7_put 10 = .ok (.aload_n 0, 1) := by decide +kernel
theorem dX7_put_11 : decode cX7_put 11 = .ok (.lload 5, 2) := by decide +kernel
theorem dX7_put_13 : decode cX7_put 13 = .ok (.putfield 136, 3) := by decide +kernel
theorem dX7_put_16 : decode cX7_put 16 = .ok (.return_, 1) := by decide +kernel
theorem dX7_beginNear_0 : decode cX7_beginNear 0 = .ok (.aload_n 0, 1) := by decide +kernel
theorem dX7_beginNear_1 : decode cX7_beginNear 1 = .ok (.lload_n 3, 1) := by decide +kernel
theorem dX7_beginNear_2 : decode cX7_beginNear 2 = .ok (.lload 5, 2) := by decide +kernel
theorem dX7_beginNear_4 : decode cX7_beginNear 4 = .ok (.invokestatic 139, 3) := by decide +kernel
theorem dX7_beginNear_7 : decode cX7_beginNear 7 = .ok (.putfield 86, 3) := by decide +kernel
theorem dX7_beginNear_10 : decode cX7_beginNear 10 = .ok (.aload_n 0, 1) := by decide +kernel
theorem dX7_beginNear_11 : decode cX7_beginNear 11 = .ok (.lload_n 1, 1) := by decide +kernel
theorem dX7_beginNear_12 : decode cX7_beginNear 12 = .ok (.lconst 0, 1) := by decide +kernel
theorem dX7_beginNear_13 : decode cX7_beginNear 13 = .ok (.lload_n 3, 1) := by decide +kernel
theorem dX7_beginNear_14 : decode cX7_beginNear 14 = .ok (.aload_n 0, 1) := by decide +kernel
theorem dX7_beginNear_15 : decode cX7_beginNear 15 = .ok (.getfield 86, 3) := by decide +kernel
theorem dX7_beginNear_18 : decode cX7_beginNear 18 = .ok (.i2l, 1) := by decide +kernel
theorem dX7_beginNear_19 : decode cX7_beginNear 19 = .ok (.lload 5, 2) := by decide +kernel
theorem dX7_beginNear_21 : decode cX7_beginNear 21 = .ok (.lmul, 1) := by decide +kernel
theorem dX7_beginNear_22 : decode cX7_beginNear 22 = .ok (.lsub, 1) := by decide +kernel
theorem dX7_beginNear_23 : decode cX7_beginNear 23 = .ok (.invokevirtual 110, 3) := by decide +kernel
theorem dX7_beginNear_26 : decode cX7_beginNear 26 = .ok (.return_, 1) := by decide +kernel
theorem dX7_beginPolar_0 : decode cX7_beginPolar 0 = .ok (.lload_n 1, 1) := by decide +kernel
theorem dX7_beginPolar_1 : decode cX7_beginPolar 1 = .ok (.lconst 0, 1) := by decide +kernel
theorem dX7_beginPolar_2 : decode cX7_beginPolar 2 = .ok (.lcmp, 1) := by decide +kernel
theorem dX7_beginPolar_3 : decode cX7_beginPolar 3 = .ok (.ifCond .lt 13, 3) := by decide +kernel
theorem dX7_beginPolar_6 : decode cX7_beginPolar 6 = .ok (.aload_n 0, 1) := by decide +kernel
theorem dX7_beginPolar_7 : decode cX7_beginPolar 7 = .ok (.lload_n 1, 1) := by decide +kernel
theorem dX7_beginPolar_8 : decode cX7_beginPolar 8 = .ok (.lload_n 3, 1) := by decide +kernel
theorem dX7_beginPolar_9 : decode cX7_beginPolar 9 = .ok (.lconst 0, 1) := by decide +kernel
theorem dX7_beginPolar_10 : decode cX7_beginPolar 10 = .ok (.invokevirtual 110, 3) := by decide +kernel
theorem dX7_beginPolar_13 : decode cX7_beginPolar 13 = .ok (.goto 42, 3) := by decide +kernel
theorem dX7_beginPolar_16 : decode cX7_beginPolar 16 = .ok (.aload_n 0, 1) := by decide +kernel
theorem dX7_beginPolar_17 : decode cX7_beginPolar 17 = .ok (.lload_n 1, 1) := by decide +kernel
theorem dX7_beginPolar_18 : decode cX7_beginPolar 18 = .ok (.lneg, 1) := by decide +kernel
theorem dX7_beginPolar_19 : decode cX7_beginPolar 19 = .ok (.lload_n 3, 1) := by decide +kernel
theorem dX7_beginPolar_20 : decode cX7_beginPolar 20 = .ok (.lneg, 1) := by decide +kernel
theorem dX7_beginPolar_21 : decode cX7_beginPolar 21 = .ok (.lload_n 3, 1) := by decide +kernel
theorem dX7_beginPolar_22 : decode cX7_beginPolar 22 = .ok (.lconst 0, 1) := by decide +kernel
theorem dX7_beginPolar_23 : decode cX7_beginPolar 23 = .ok (.lcmp, 1) := by decide +kernel
theorem dX7_beginPolar_24 : decode cX7_beginPolar 24 = .ok (.ifCond .lt 17, 3) := by decide +kernel
theorem dX7_beginPolar_27 : decode cX7_beginPolar 27 = .ok (.ldc2_w 142, 3) := by decide +kernel
theorem dX7_beginPolar_30 : decode cX7_beginPolar 30 = .ok (.aload_n 0, 1) := by decide +kernel
theorem dX7_beginPolar_31 : decode cX7_beginPolar 31 = .ok (.getfield 9, 3) := by decide +kernel
theorem dX7_beginPolar_34 : decode cX7_beginPolar 34 = .ok (.getfield 93, 3) := by decide +kernel
theorem dX7_beginPolar_37 : decode cX7_beginPolar 37 = .ok (.lmul, 1) := by decide +kernel
theorem dX7_beginPolar_38 : decode cX7_beginPolar 38 = .ok (.goto 14, 3) := by decide +kernel
theorem dX7_beginPolar_41 : decode cX7_beginPolar 41 = .ok (.ldc2_w 144, 3) := by decide +kernel
theorem dX7_beginPolar_44 : decode cX7_beginPolar 44 = .ok (.aload_n 0, 1) := by decide +kernel
theorem dX7_beginPolar_45 : decode cX7_beginPolar 45 = .ok (.getfield 9, 3) := by decide +kernel
theorem dX7_beginPolar_48 : decode cX7_beginPolar 48 = .ok (.getfield 93, 3) := by decide +kernel
theorem dX7_beginPolar_51 : decode cX7_beginPolar 51 = .ok (.lmul, 1) := by decide +kernel
theorem dX7_beginPolar_52 : decode cX7_beginPolar 52 = .ok (.invokevirtual 110, 3) := by decide +kernel
theorem dX7_beginPolar_55 : decode cX7_beginPolar 55 = .ok (.return_, 1) := by decide +kernel
theorem dX7_beginTimes_0 : decode cX7_beginTimes 0 = .ok (.aload_n 0, 1) := by decide +kernel
theorem dX7_beginTimes_1 : decode cX7_beginTimes 1 = .ok (.getfield 86, 3) := by decide +kernel
theorem dX7_beginTimes_4 : decode cX7_beginTimes 4 = .ok (.iconst 4, 1) := by decide +kernel
theorem dX7_beginTimes_5 : decode cX7_beginTimes 5 = .ok (.if_icmp .ge 38, 3) := by decide +kernel
theorem dX7_beginTimes_8 : decode cX7_beginTimes 8 = .ok (.lload_n 3, 1) := by decide +kernel
theorem dX7_beginTimes_9 : decode cX7_beginTimes 9 = .ok (.invokestatic 71, 3) := by decide +kernel
theorem dX7_beginTimes_12 : decode cX7_beginTimes 12 = .ok (.lconst 1, 1) := by decide +kernel
theorem dX7_beginTimes_13 : decode cX7_beginTimes 13 = .ok (.aload_n 0, 1) := by decide +kernel
theorem dX7_beginTimes_14 : decode cX7_beginTimes 14 = .ok (.getfield 9, 3) := by decide +kernel
theorem dX7_beginTimes_17 : decode cX7_beginTimes 17 = .ok (.getfield 80, 3) := by decide +kernel
theorem dX7_beginTimes_20 : decode cX7_beginTimes 20 = .ok (.aload_n 0, 1) := by decide +kernel
theorem dX7_beginTimes_21 : decode cX7_beginTimes 21 = .ok (.getfield 86, 3) := by decide +kernel
theorem dX7_beginTimes_24 : decode cX7_beginTimes 24 = .ok (.iadd, 1) := by decide +kernel
theorem dX7_beginTimes_25 : decode cX7_beginTimes 25 = .ok (.lshl, 1) := by decide +kernel
theorem dX7_beginTimes_26 : decode cX7_beginTimes 26 = .ok (.lcmp, 1) := by decide +kernel
theorem dX7_beginTimes_27 : decode cX7_beginTimes 27 = .ok (.ifCond .le 16, 3) := by decide +kernel
theorem dX7_beginTimes_30 : decode cX7_beginTimes 30 = .ok (.aload_n 0, 1) := by decide +kernel
theorem dX7_beginTimes_31 : decode cX7_beginTimes 31 = .ok (.dup, 1) := by decide +kernel
theorem dX7_beginTimes_32 : decode cX7_beginTimes 32 = .ok (.getfield 86, 3) := by decide +kernel
theorem dX7_beginTimes_35 : decode cX7_beginTimes 35 = .ok (.iconst 1, 1) := by decide +kernel
theorem dX7_beginTimes_36 : decode cX7_beginTimes 36 = .ok (.iadd, 1) := by decide +kernel
theorem dX7_beginTimes_37 : decode cX7_beginTimes 37 = .ok (.putfield 86, 3) := by decide +kernel
theorem dX7_beginTimes_40 : decode cX7_beginTimes 40 = .ok (.goto (-40), 3) := by decide +kernel
theorem dX7_beginTimes_43 : decode cX7_beginTimes 43 = .ok (.aload_n 0, 1) := by decide +kernel
theorem dX7_beginTimes_44 : decode cX7_beginTimes 44 = .ok (.lload_n 1, 1) := by decide +kernel
theorem dX7_beginTimes_45 : decode cX7_beginTimes 45 = .ok (.lconst 0, 1) := by decide +kernel
theorem dX7_beginTimes_46 : decode cX7_beginTimes 46 = .ok (.aload_n 0, 1) := by decide +kernel
theorem dX7_beginTimes_47 : decode cX7_beginTimes 47 = .ok (.getfield 9, 3) := by decide +kernel
theorem dX7_beginTimes_50 : decode cX7_beginTimes 50 = .ok (.lload_n 3, 1) := by decide +kernel
theorem dX7_beginTimes_51 : decode cX7_beginTimes 51 = .ok (.aload_n 0, 1) := by decide +kernel
theorem dX7_beginTimes_52 : decode cX7_beginTimes 52 = .ok (.getfield 86, 3) := by decide +kernel
theorem dX7_beginTimes_55 : decode cX7_beginTimes 55 = .ok (.invokevirtual 146, 3) := by decide +kernel
theorem dX7_beginTimes_58 : decode cX7_beginTimes 58 = .ok (.invokevirtual 110, 3) := by decide +kernel
theorem dX7_beginTimes_61 : decode cX7_beginTimes 61 = .ok (.return_, 1) := by decide +kernel
theorem dX7_beginOver_0 : decode cX7_beginOver 0 = .ok (.aload_n 0, 1) := by decide +kernel
theorem dX7_beginOver_1 : decode cX7_beginOver 1 = .ok (.lload_n 1, 1) := by decide +kernel
theorem dX7_beginOver_2 : decode cX7_beginOver 2 = .ok (.lload_n 3, 1) := by decide +kernel
theorem dX7_beginOver_3 : decode cX7_beginOver 3 = .ok (.invokestatic 64, 3) := by decide +kernel
theorem dX7_beginOver_6 : decode cX7_beginOver 6 = .ok (.putfield 86, 3) := by decide +kernel
theorem dX7_beginOver_9 : decode cX7_beginOver 9 = .ok (.aload_n 0, 1) := by decide +kernel
theorem dX7_beginOver_10 : decode cX7_beginOver 10 = .ok (.lload_n 3, 1) := by decide +kernel
theorem dX7_beginOver_11 : decode cX7_beginOver 11 = .ok (.invokestatic 71, 3) := by decide +kernel
theorem dX7_beginOver_14 : decode cX7_beginOver 14 = .ok (.aload_n 0, 1) := by decide +kernel
theorem dX7_beginOver_15 : decode cX7_beginOver 15 = .ok (.getfield 86, 3) := by decide +kernel
theorem dX7_beginOver_18 : decode cX7_beginOver 18 = .ok (.lshl, 1) := by decide +kernel
theorem dX7_beginOver_19 : decode cX7_beginOver 19 = .ok (.lload_n 3, 1) := by decide +kernel
theorem dX7_beginOver_20 : decode cX7_beginOver 20 = .ok (.lconst 0, 1) := by decide +kernel
theorem dX7_beginOver_21 : decode cX7_beginOver 21 = .ok (.lcmp, 1) := by decide +kernel
theorem dX7_beginOver_22 : decode cX7_beginOver 22 = .ok (.ifCond .ge 8, 3) := by decide +kernel
theorem dX7_beginOver_25 : decode cX7_beginOver 25 = .ok (.lload_n 1, 1) := by decide +kernel
theorem dX7_beginOver_26 : decode cX7_beginOver 26 = .ok (.lneg, 1) := by decide +kernel
theorem dX7_beginOver_27 : decode cX7_beginOver 27 = .ok (.goto 4, 3) := by decide +kernel
theorem dX7_beginOver_30 : decode cX7_beginOver 30 = .ok (.lload_n 1, 1) := by decide +kernel
theorem dX7_beginOver_31 : decode cX7_beginOver 31 = .ok (.lconst 0, 1) := by decide +kernel
theorem dX7_beginOver_32 : decode cX7_beginOver 32 = .ok (.invokevirtual 110, 3) := by decide +kernel
theorem dX7_beginOver_35 : decode cX7_beginOver 35 = .ok (.return_, 1) := by decide +kernel
theorem dX7_beginApart_0 : decode cX7_beginApart 0 = .ok (.aload_n 0, 1) := by decide +kernel
theorem dX7_beginApart_1 : decode cX7_beginApart 1 = .ok (.lload_n 1, 1) := by decide +kernel
theorem dX7_beginApart_2 : decode cX7_beginApart 2 = .ok (.lload_n 3, 1) := by decide +kernel
theorem dX7_beginApart_3 : decode cX7_beginApart 3 = .ok (.ladd, 1) := by decide +kernel
theorem dX7_beginApart_4 : decode cX7_beginApart 4 = .ok (.lload_n 1, 1) := by decide +kernel
theorem dX7_beginApart_5 : decode cX7_beginApart 5 = .ok (.lload_n 3, 1) := by decide +kernel
theorem dX7_beginApart_6 : decode cX7_beginApart 6 = .ok (.lsub, 1) := by decide +kernel
theorem dX7_beginApart_7 : decode cX7_beginApart 7 = .ok (.lconst 0, 1) := by decide +kernel
theorem dX7_beginApart_8 : decode cX7_beginApart 8 = .ok (.invokevirtual 110, 3) := by decide +kernel
theorem dX7_beginApart_11 : decode cX7_beginApart 11 = .ok (.return_, 1) := by decide +kernel
theorem dX7_beginTurn_0 : decode cX7_beginTurn 0 = .ok (.aload_n 0, 1) := by decide +kernel
theorem dX7_beginTurn_1 : decode cX7_beginTurn 1 = .ok (.lload 5, 2) := by decide +kernel
theorem dX7_beginTurn_3 : decode cX7_beginTurn 3 = .ok (.aload_n 0, 1) := by decide +kernel
theorem dX7_beginTurn_4 : decode cX7_beginTurn 4 = .ok (.getfield 9, 3) := by decide +kernel
theorem dX7_beginTurn_7 : decode cX7_beginTurn 7 = .ok (.getfield 93, 3) := by decide +kernel
theorem dX7_beginTurn_10 : decode cX7_beginTurn 10 = .ok (.invokestatic 139, 3) := by decide +kernel
theorem dX7_beginTurn_13 : decode cX7_beginTurn 13 = .ok (.putfield 86, 3) := by decide +kernel
theorem dX7_beginTurn_16 : decode cX7_beginTurn 16 = .ok (.aload_n 0, 1) := by decide +kernel
theorem dX7_beginTurn_17 : decode cX7_beginTurn 17 = .ok (.lload_n 1, 1) := by decide +kernel
theorem dX7_beginTurn_18 : decode cX7_beginTurn 18 = .ok (.lload_n 3, 1) := by decide +kernel
theorem dX7_beginTurn_19 : decode cX7_beginTurn 19 = .ok (.invokevirtual 149, 3) := by decide +kernel
theorem dX7_beginTurn_22 : decode cX7_beginTurn 22 = .ok (.aload_n 0, 1) := by decide +kernel
theorem dX7_beginTurn_23 : decode cX7_beginTurn 23 = .ok (.aload_n 0, 1) := by decide +kernel
theorem dX7_beginTurn_24 : decode cX7_beginTurn 24 = .ok (.getfield 37, 3) := by decide +kernel
theorem dX7_beginTurn_27 : decode cX7_beginTurn 27 = .ok (.aload_n 0, 1) := by decide +kernel
theorem dX7_beginTurn_28 : decode cX7_beginTurn 28 = .ok (.getfield 41, 3) := by decide +kernel
theorem dX7_beginTurn_31 : decode cX7_beginTurn 31 = .ok (.lload 5, 2) := by decide +kernel
theorem dX7_beginTurn_33 : decode cX7_beginTurn 33 = .ok (.aload_n 0, 1) := by decide +kernel
theorem dX7_beginTurn_34 : decode cX7_beginTurn 34 = .ok (.getfield 86, 3) := by decide +kernel
theorem dX7_beginTurn_37 : decode cX7_beginTurn 37 = .ok (.i2l, 1) := by decide +kernel
theorem dX7_beginTurn_38 : decode cX7_beginTurn 38 = .ok (.aload_n 0, 1) := by decide +kernel
theorem dX7_beginTurn_39 : decode cX7_beginTurn 39 = .ok (.getfield 9, 3) := by decide +kernel
theorem dX7_beginTurn_42 : decode cX7_beginTurn 42 = .ok (.getfield 93, 3) := by decide +kernel
theorem dX7_beginTurn_45 : decode cX7_beginTurn 45 = .ok (.lmul, 1) := by decide +kernel
theorem dX7_beginTurn_46 : decode cX7_beginTurn 46 = .ok (.lsub, 1) := by decide +kernel
theorem dX7_beginTurn_47 : decode cX7_beginTurn 47 = .ok (.invokevirtual 110, 3) := by decide +kernel
theorem dX7_beginTurn_50 : decode cX7_beginTurn 50 = .ok (.return_, 1) := by decide +kernel
theorem dX7_nearest_0 : decode cX7_nearest 0 = .ok (.lload_n 2, 1) := by decide +kernel
theorem dX7_nearest_1 : decode cX7_nearest 1 = .ok (.lconst 0, 1) := by decide +kernel
theorem dX7_nearest_2 : decode cX7_nearest 2 = .ok (.lcmp, 1) := by decide +kernel
theorem dX7_nearest_3 : decode cX7_nearest 3 = .ok (.ifCond .le 22, 3) := by decide +kernel
theorem dX7_nearest_6 : decode cX7_nearest 6 = .ok (.ldc2_w 142, 3) := by decide +kernel
theorem dX7_nearest_9 : decode cX7_nearest 9 = .ok (.lload_n 0, 1) := by decide +kernel
theorem dX7_nearest_10 : decode cX7_nearest 10 = .ok (.lmul, 1) := by decide +kernel
theorem dX7_nearest_11 : decode cX7_nearest 11 = .ok (.lload_n 2, 1) := by decide +kernel
theorem dX7_nearest_12 : decode cX7_nearest 12 = .ok (.ladd, 1) := by decide +kernel
theorem dX7_nearest_13 : decode cX7_nearest 13 = .ok (.ldc2_w 142, 3) := by decide +kernel
theorem dX7_nearest_16 : decode cX7_nearest 16 = .ok (.lload_n 2, 1) := by decide +kernel
theorem dX7_nearest_17 : decode cX7_nearest 17 = .ok (.lmul, 1) := by decide +kernel
theorem dX7_nearest_18 : decode cX7_nearest 18 = .ok (.invokestatic 152, 3) := by decide +kernel
theorem dX7_nearest_21 : decode cX7_nearest 21 = .ok (.l2i, 1) := by decide +kernel
theorem dX7_nearest_22 : decode cX7_nearest 22 = .ok (.goto 4, 3) := by decide +kernel
theorem dX7_nearest_25 : decode cX7_nearest 25 = .ok (.iconst 0, 1) := by decide +kernel
theorem dX7_nearest_26 : decode cX7_nearest 26 = .ok (.ireturn, 1) := by decide +kernel
theorem dX7_powerOf_0 : decode cX7_powerOf 0 = .ok (.bipush 63, 2) := by decide +kernel
theorem dX7_powerOf_2 : decode cX7_powerOf 2 = .ok (.lload_n 0, 1) := by decide +kernel
theorem dX7_powerOf_3 : decode cX7_powerOf 3 = .ok (.invokestatic 156, 3) := by decide +kernel
theorem dX7_powerOf_6 : decode cX7_powerOf 6 = .ok (.isub, 1) := by decide +kernel
theorem dX7_powerOf_7 : decode cX7_powerOf 7 = .ok (.ireturn, 1) := by decide +kernel
theorem dX7_turnQuarters_0 : decode cX7_turnQuarters 0 = .ok (.aload_n 0, 1) := by decide +kernel
theorem dX7_turnQuarters_1 : decode cX7_turnQuarters 1 = .ok (.getfield 86, 3) := by decide +kernel
theorem dX7_turnQuarters_4 : decode cX7_turnQuarters 4 = .ok (.iconst 3, 1) := by decide +kernel
theorem dX7_turnQuarters_5 : decode cX7_turnQuarters 5 = .ok (.iand, 1) := by decide +kernel
theorem dX7_turnQuarters_6 : decode cX7_turnQuarters 6 = .ok (.tableswitch 56 0 2 #[26, 35, 45], 26) := by decide +kernel
theorem dX7_turnQuarters_32 : decode cX7_turnQuarters 32 = .ok (.aload_n 0, 1) := by decide +kernel
theorem dX7_turnQuarters_33 : decode cX7_turnQuarters 33 = .ok (.lload_n 1, 1) := by decide +kernel
theorem dX7_turnQuarters_34 : decode cX7_turnQuarters 34 = .ok (.lload_n 3, 1) := by decide +kernel
theorem dX7_turnQuarters_35 : decode cX7_turnQuarters 35 = .ok (.invokevirtual 161, 3) := by decide +kernel
theorem dX7_turnQuarters_38 : decode cX7_turnQuarters 38 = .ok (.goto 31, 3) := by decide +kernel
theorem dX7_turnQuarters_41 : decode cX7_turnQuarters 41 = .ok (.aload_n 0, 1) := by decide +kernel
theorem dX7_turnQuarters_42 : decode cX7_turnQuarters 42 = .ok (.lload_n 3, 1) := by decide +kernel
theorem dX7_turnQuarters_43 : decode cX7_turnQuarters 43 = .ok (.lneg, 1) := by decide +kernel
theorem dX7_turnQuarters_44 : decode cX7_turnQuarters 44 = .ok (.lload_n 1, 1) := by decide +kernel
theorem dX7_turnQuarters_45 : decode cX7_turnQuarters 45 = .ok (.invokevirtual 161, 3) := by decide +kernel
theorem dX7_turnQuarters_48 : decode cX7_turnQuarters 48 = .ok (.goto 21, 3) := by decide +kernel
theorem dX7_turnQuarters_51 : decode cX7_turnQuarters 51 = .ok (.aload_n 0, 1) := by decide +kernel
theorem dX7_turnQuarters_52 : decode cX7_turnQuarters 52 = .ok (.lload_n 1, 1) := by decide +kernel
theorem dX7_turnQuarters_53 : decode cX7_turnQuarters 53 = .ok (.lneg, 1) := by decide +kernel
theorem dX7_turnQuarters_54 : decode cX7_turnQuarters 54 = .ok (.lload_n 3, 1) := by decide +kernel
theorem dX7_turnQuarters_55 : decode cX7_turnQuarters 55 = .ok (.lneg, 1) := by decide +kernel
theorem dX7_turnQuarters_56 : decode cX7_turnQuarters 56 = .ok (.invokevirtual 161, 3) := by decide +kernel
theorem dX7_turnQuarters_59 : decode cX7_turnQuarters 59 = .ok (.goto 10, 3) := by decide +kernel
theorem dX7_turnQuarters_62 : decode cX7_turnQuarters 62 = .ok (.aload_n 0, 1) := by decide +kernel
theorem dX7_turnQuarters_63 : decode cX7_turnQuarters 63 = .ok (.lload_n 3, 1) := by decide +kernel
theorem dX7_turnQuarters_64 : decode cX7_turnQuarters 64 = .ok (.lload_n 1, 1) := by decide +kernel
theorem dX7_turnQuarters_65 : decode cX7_turnQuarters 65 = .ok (.lneg, 1) := by decide +kernel
theorem dX7_turnQuarters_66 : decode cX7_turnQuarters 66 = .ok (.invokevirtual 161, 3) := by decide +kernel
theorem dX7_turnQuarters_69 : decode cX7_turnQuarters 69 = .ok (.return_, 1) := by decide +kernel
theorem dX7_answers_0 : decode cX7_answers 0 = .ok (.aload_n 0, 1) := by decide +kernel
theorem dX7_answers_1 : decode cX7_answers 1 = .ok (.lload_n 1, 1) := by decide +kernel
theorem dX7_answers_2 : decode cX7_answers 2 = .ok (.putfield 37, 3) := by decide +kernel
theorem dX7_answers_5 : decode cX7_answers 5 = .ok (.aload_n 0, 1) := by decide +kernel
theorem dX7_answers_6 : decode cX7_answers 6 = .ok (.lload_n 3, 1) := by decide +kernel
theorem dX7_answers_7 : decode cX7_answers 7 = .ok (.putfield 41, 3) := by decide +kernel
theorem dX7_answers_10 : decode cX7_answers 10 = .ok (.return_, 1) := by decide +kernel
theorem dX7_goThrough_0 : decode cX7_goThrough 0 = .ok (.getstatic 50, 3) := by decide +kernel
theorem dX7_goThrough_3 : decode cX7_goThrough 3 = .ok (.iload_n 1, 1) := by decide +kernel
theorem dX7_goThrough_4 : decode cX7_goThrough 4 = .ok (.aaload, 1) := by decide +kernel
theorem dX7_goThrough_5 : decode cX7_goThrough 5 = .ok (.getfield 164, 3) := by decide +kernel
theorem dX7_goThrough_8 : decode cX7_goThrough 8 = .ok (.istore_n 3, 1) := by decide +kernel
theorem dX7_goThrough_9 : decode cX7_goThrough 9 = .ok (.getstatic 50, 3) := by decide +kernel
theorem dX7_goThrough_12 : decode cX7_goThrough 12 = .ok (.iload_n 1, 1) := by decide +kernel
theorem dX7_goThrough_13 : decode cX7_goThrough 13 = .ok (.aaload, 1) := by decide +kernel
theorem dX7_goThrough_14 : decode cX7_goThrough 14 = .ok (.getfield 168, 3) := by decide +kernel
theorem dX7_goThrough_17 : decode cX7_goThrough 17 = .ok (.istore 4, 2) := by decide +kernel
theorem dX7_goThrough_19 : decode cX7_goThrough 19 = .ok (.iconst 0, 1) := by decide +kernel
theorem dX7_goThrough_20 : decode cX7_goThrough 20 = .ok (.istore 5, 2) := by decide +kernel
theorem dX7_goThrough_22 : decode cX7_goThrough 22 = .ok (.iload 5, 2) := by decide +kernel
theorem dX7_goThrough_24 : decode cX7_goThrough 24 = .ok (.iload_n 2, 1) := by decide +kernel
theorem dX7_goThrough_25 : decode cX7_goThrough 25 = .ok (.if_icmp .ge 265, 3) := by decide +kernel
theorem dX7_goThrough_28 : decode cX7_goThrough 28 = .ok (.iload 5, 2) := by decide +kernel
theorem dX7_goThrough_30 : decode cX7_goThrough 30 = .ok (.bipush 24, 2) := by decide +kernel
