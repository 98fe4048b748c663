theorem d_Reader_isSymbol_8 : decode k_Reader_isSymbol 8 = .ok (.invokestatic 106, 3) := by decide +kernel
theorem d_Reader_isSymbol_11 : decode k_Reader_isSymbol 11 = .ok (.ifCond .eq (35), 3) := by decide +kernel
theorem d_Reader_isSymbol_14 : decode k_Reader_isSymbol 14 = .ok (.aload_n 0, 1) := by decide +kernel
theorem d_Reader_isSymbol_15 : decode k_Reader_isSymbol 15 = .ok (.getfield 28, 3) := by decide +kernel
theorem d_Reader_isSymbol_18 : decode k_Reader_isSymbol 18 = .ok (.iload_n 1, 1) := by decide +kernel
theorem d_Reader_isSymbol_19 : decode k_Reader_isSymbol 19 = .ok (.iload_n 2, 1) := by decide +kernel
theorem d_Reader_isSymbol_20 : decode k_Reader_isSymbol 20 = .ok (.invokevirtual 109, 3) := by decide +kernel
theorem d_Reader_isSymbol_23 : decode k_Reader_isSymbol 23 = .ok (.ifCond .ne (23), 3) := by decide +kernel
theorem d_Reader_isSymbol_26 : decode k_Reader_isSymbol 26 = .ok (.aload_n 0, 1) := by decide +kernel
theorem d_Reader_isSymbol_27 : decode k_Reader_isSymbol 27 = .ok (.getfield 28, 3) := by decide +kernel
theorem d_Reader_isSymbol_30 : decode k_Reader_isSymbol 30 = .ok (.iload_n 1, 1) := by decide +kernel
theorem d_Reader_isSymbol_31 : decode k_Reader_isSymbol 31 = .ok (.iload_n 2, 1) := by decide +kernel
theorem d_Reader_isSymbol_32 : decode k_Reader_isSymbol 32 = .ok (.invokevirtual 96, 3) := by decide +kernel
theorem d_Reader_isSymbol_35 : decode k_Reader_isSymbol 35 = .ok (.ldc2_w 112, 3) := by decide +kernel
theorem d_Reader_isSymbol_38 : decode k_Reader_isSymbol 38 = .ok (.lcmp, 1) := by decide +kernel
theorem d_Reader_isSymbol_39 : decode k_Reader_isSymbol 39 = .ok (.ifCond .eq (7), 3) := by decide +kernel
theorem d_Reader_isSymbol_42 : decode k_Reader_isSymbol 42 = .ok (.iconst 1, 1) := by decide +kernel
theorem d_Reader_isSymbol_43 : decode k_Reader_isSymbol 43 = .ok (.goto (4), 3) := by decide +kernel
theorem d_Reader_isSymbol_46 : decode k_Reader_isSymbol 46 = .ok (.iconst 0, 1) := by decide +kernel
theorem d_Reader_isSymbol_47 : decode k_Reader_isSymbol 47 = .ok (.ireturn, 1) := by decide +kernel
theorem d_Reader_build_0 : decode k_Reader_build 0 = .ok (.iconst 0, 1) := by decide +kernel
theorem d_Reader_build_1 : decode k_Reader_build 1 = .ok (.istore_n 1, 1) := by decide +kernel
theorem d_Reader_build_2 : decode k_Reader_build 2 = .ok (.iconst 0, 1) := by decide +kernel
theorem d_Reader_build_3 : decode k_Reader_build 3 = .ok (.istore_n 2, 1) := by decide +kernel
theorem d_Reader_build_4 : decode k_Reader_build 4 = .ok (.iconst 0, 1) := by decide +kernel
theorem d_Reader_build_5 : decode k_Reader_build 5 = .ok (.istore_n 3, 1) := by decide +kernel
theorem d_Reader_build_6 : decode k_Reader_build 6 = .ok (.aload_n 0, 1) := by decide +kernel
theorem d_Reader_build_7 : decode k_Reader_build 7 = .ok (.iconst 2, 1) := by decide +kernel
theorem d_Reader_build_8 : decode k_Reader_build 8 = .ok (.putfield 11, 3) := by decide +kernel
theorem d_Reader_build_11 : decode k_Reader_build 11 = .ok (.iconst 0, 1) := by decide +kernel
theorem d_Reader_build_12 : decode k_Reader_build 12 = .ok (.istore 4, 2) := by decide +kernel
theorem d_Reader_build_14 : decode k_Reader_build 14 = .ok (.iload 4, 2) := by decide +kernel
theorem d_Reader_build_16 : decode k_Reader_build 16 = .ok (.bipush 120, 2) := by decide +kernel
theorem d_Reader_build_18 : decode k_Reader_build 18 = .ok (.if_icmp .ge (166), 3) := by decide +kernel
theorem d_Reader_build_21 : decode k_Reader_build 21 = .ok (.iload_n 3, 1) := by decide +kernel
theorem d_Reader_build_22 : decode k_Reader_build 22 = .ok (.aload_n 0, 1) := by decide +kernel
theorem d_Reader_build_23 : decode k_Reader_build 23 = .ok (.getfield 60, 3) := by decide +kernel
theorem d_Reader_build_26 : decode k_Reader_build 26 = .ok (.if_icmp .ge (158), 3) := by decide +kernel
theorem d_Reader_build_29 : decode k_Reader_build 29 = .ok (.aload_n 0, 1) := by decide +kernel
theorem d_Reader_build_30 : decode k_Reader_build 30 = .ok (.getfield 28, 3) := by decide +kernel
theorem d_Reader_build_33 : decode k_Reader_build 33 = .ok (.iload_n 3, 1) := by decide +kernel
theorem d_Reader_build_34 : decode k_Reader_build 34 = .ok (.invokevirtual 72, 3) := by decide +kernel
theorem d_Reader_build_37 : decode k_Reader_build 37 = .ok (.istore 5, 2) := by decide +kernel
theorem d_Reader_build_39 : decode k_Reader_build 39 = .ok (.aload_n 0, 1) := by decide +kernel
theorem d_Reader_build_40 : decode k_Reader_build 40 = .ok (.getfield 28, 3) := by decide +kernel
theorem d_Reader_build_43 : decode k_Reader_build 43 = .ok (.iload_n 3, 1) := by decide +kernel
theorem d_Reader_build_44 : decode k_Reader_build 44 = .ok (.invokevirtual 76, 3) := by decide +kernel
theorem d_Reader_build_47 : decode k_Reader_build 47 = .ok (.istore 6, 2) := by decide +kernel
theorem d_Reader_build_49 : decode k_Reader_build 49 = .ok (.iload 5, 2) := by decide +kernel
theorem d_Reader_build_51 : decode k_Reader_build 51 = .ok (.bipush 40, 2) := by decide +kernel
theorem d_Reader_build_53 : decode k_Reader_build 53 = .ok (.if_icmp .ne (42), 3) := by decide +kernel
theorem d_Reader_build_56 : decode k_Reader_build 56 = .ok (.iload_n 1, 1) := by decide +kernel
theorem d_Reader_build_57 : decode k_Reader_build 57 = .ok (.ifCond .lt (38), 3) := by decide +kernel
theorem d_Reader_build_60 : decode k_Reader_build 60 = .ok (.iload_n 1, 1) := by decide +kernel
theorem d_Reader_build_61 : decode k_Reader_build 61 = .ok (.bipush 10, 2) := by decide +kernel
theorem d_Reader_build_63 : decode k_Reader_build 63 = .ok (.if_icmp .ge (32), 3) := by decide +kernel
theorem d_Reader_build_66 : decode k_Reader_build 66 = .ok (.iinc 1 1, 3) := by decide +kernel
theorem d_Reader_build_69 : decode k_Reader_build 69 = .ok (.aload_n 0, 1) := by decide +kernel
theorem d_Reader_build_70 : decode k_Reader_build 70 = .ok (.getfield 17, 3) := by decide +kernel
theorem d_Reader_build_73 : decode k_Reader_build 73 = .ok (.iload_n 1, 1) := by decide +kernel
theorem d_Reader_build_74 : decode k_Reader_build 74 = .ok (.iconst 2, 1) := by decide +kernel
theorem d_Reader_build_75 : decode k_Reader_build 75 = .ok (.iastore, 1) := by decide +kernel
theorem d_Reader_build_76 : decode k_Reader_build 76 = .ok (.aload_n 0, 1) := by decide +kernel
theorem d_Reader_build_77 : decode k_Reader_build 77 = .ok (.getfield 21, 3) := by decide +kernel
theorem d_Reader_build_80 : decode k_Reader_build 80 = .ok (.iload_n 1, 1) := by decide +kernel
theorem d_Reader_build_81 : decode k_Reader_build 81 = .ok (.iconst 2, 1) := by decide +kernel
theorem d_Reader_build_82 : decode k_Reader_build 82 = .ok (.iastore, 1) := by decide +kernel
theorem d_Reader_build_83 : decode k_Reader_build 83 = .ok (.aload_n 0, 1) := by decide +kernel
theorem d_Reader_build_84 : decode k_Reader_build 84 = .ok (.getfield 24, 3) := by decide +kernel
theorem d_Reader_build_87 : decode k_Reader_build 87 = .ok (.iload_n 1, 1) := by decide +kernel
theorem d_Reader_build_88 : decode k_Reader_build 88 = .ok (.iload_n 2, 1) := by decide +kernel
theorem d_Reader_build_89 : decode k_Reader_build 89 = .ok (.bastore, 1) := by decide +kernel
theorem d_Reader_build_90 : decode k_Reader_build 90 = .ok (.iconst 0, 1) := by decide +kernel
theorem d_Reader_build_91 : decode k_Reader_build 91 = .ok (.istore_n 2, 1) := by decide +kernel
theorem d_Reader_build_92 : decode k_Reader_build 92 = .ok (.goto (83), 3) := by decide +kernel
theorem d_Reader_build_95 : decode k_Reader_build 95 = .ok (.iload 5, 2) := by decide +kernel
theorem d_Reader_build_97 : decode k_Reader_build 97 = .ok (.bipush 41, 2) := by decide +kernel
theorem d_Reader_build_99 : decode k_Reader_build 99 = .ok (.if_icmp .ne (41), 3) := by decide +kernel
theorem d_Reader_build_102 : decode k_Reader_build 102 = .ok (.iload_n 1, 1) := by decide +kernel
theorem d_Reader_build_103 : decode k_Reader_build 103 = .ok (.iconst 1, 1) := by decide +kernel
theorem d_Reader_build_104 : decode k_Reader_build 104 = .ok (.if_icmp .lt (36), 3) := by decide +kernel
theorem d_Reader_build_107 : decode k_Reader_build 107 = .ok (.iload_n 1, 1) := by decide +kernel
theorem d_Reader_build_108 : decode k_Reader_build 108 = .ok (.bipush 10, 2) := by decide +kernel
theorem d_Reader_build_110 : decode k_Reader_build 110 = .ok (.if_icmp .gt (30), 3) := by decide +kernel
theorem d_Reader_build_113 : decode k_Reader_build 113 = .ok (.iinc 1 (-1), 3) := by decide +kernel
theorem d_Reader_build_116 : decode k_Reader_build 116 = .ok (.aload_n 0, 1) := by decide +kernel
theorem d_Reader_build_117 : decode k_Reader_build 117 = .ok (.aload_n 0, 1) := by decide +kernel
theorem d_Reader_build_118 : decode k_Reader_build 118 = .ok (.getfield 17, 3) := by decide +kernel
theorem d_Reader_build_121 : decode k_Reader_build 121 = .ok (.iload_n 1, 1) := by decide +kernel
theorem d_Reader_build_122 : decode k_Reader_build 122 = .ok (.iconst 1, 1) := by decide +kernel
theorem d_Reader_build_123 : decode k_Reader_build 123 = .ok (.iadd, 1) := by decide +kernel
theorem d_Reader_build_124 : decode k_Reader_build 124 = .ok (.iaload, 1) := by decide +kernel
theorem d_Reader_build_125 : decode k_Reader_build 125 = .ok (.aload_n 0, 1) := by decide +kernel
theorem d_Reader_build_126 : decode k_Reader_build 126 = .ok (.getfield 24, 3) := by decide +kernel
theorem d_Reader_build_129 : decode k_Reader_build 129 = .ok (.iload_n 1, 1) := by decide +kernel
theorem d_Reader_build_130 : decode k_Reader_build 130 = .ok (.iconst 1, 1) := by decide +kernel
theorem d_Reader_build_131 : decode k_Reader_build 131 = .ok (.iadd, 1) := by decide +kernel
theorem d_Reader_build_132 : decode k_Reader_build 132 = .ok (.baload, 1) := by decide +kernel
theorem d_Reader_build_133 : decode k_Reader_build 133 = .ok (.iload_n 1, 1) := by decide +kernel
theorem d_Reader_build_134 : decode k_Reader_build 134 = .ok (.invokevirtual 114, 3) := by decide +kernel
theorem d_Reader_build_137 : decode k_Reader_build 137 = .ok (.goto (38), 3) := by decide +kernel
theorem d_Reader_build_140 : decode k_Reader_build 140 = .ok (.iload 5, 2) := by decide +kernel
theorem d_Reader_build_142 : decode k_Reader_build 142 = .ok (.bipush 39, 2) := by decide +kernel
theorem d_Reader_build_144 : decode k_Reader_build 144 = .ok (.if_icmp .ne (8), 3) := by decide +kernel
theorem d_Reader_build_147 : decode k_Reader_build 147 = .ok (.iconst 1, 1) := by decide +kernel
theorem d_Reader_build_148 : decode k_Reader_build 148 = .ok (.istore_n 2, 1) := by decide +kernel
theorem d_Reader_build_149 : decode k_Reader_build 149 = .ok (.goto (26), 3) := by decide +kernel
theorem d_Reader_build_152 : decode k_Reader_build 152 = .ok (.iload 5, 2) := by decide +kernel
theorem d_Reader_build_154 : decode k_Reader_build 154 = .ok (.invokestatic 106, 3) := by decide +kernel
theorem d_Reader_build_157 : decode k_Reader_build 157 = .ok (.ifCond .eq (18), 3) := by decide +kernel
theorem d_Reader_build_160 : decode k_Reader_build 160 = .ok (.aload_n 0, 1) := by decide +kernel
theorem d_Reader_build_161 : decode k_Reader_build 161 = .ok (.aload_n 0, 1) := by decide +kernel
theorem d_Reader_build_162 : decode k_Reader_build 162 = .ok (.iload_n 3, 1) := by decide +kernel
theorem d_Reader_build_163 : decode k_Reader_build 163 = .ok (.iload 6, 2) := by decide +kernel
theorem d_Reader_build_165 : decode k_Reader_build 165 = .ok (.invokevirtual 118, 3) := by decide +kernel
theorem d_Reader_build_168 : decode k_Reader_build 168 = .ok (.iload_n 2, 1) := by decide +kernel
theorem d_Reader_build_169 : decode k_Reader_build 169 = .ok (.iload_n 1, 1) := by decide +kernel
theorem d_Reader_build_170 : decode k_Reader_build 170 = .ok (.invokevirtual 114, 3) := by decide +kernel
theorem d_Reader_build_173 : decode k_Reader_build 173 = .ok (.iconst 0, 1) := by decide +kernel
theorem d_Reader_build_174 : decode k_Reader_build 174 = .ok (.istore_n 2, 1) := by decide +kernel
theorem d_Reader_build_175 : decode k_Reader_build 175 = .ok (.iload 6, 2) := by decide +kernel
theorem d_Reader_build_177 : decode k_Reader_build 177 = .ok (.istore_n 3, 1) := by decide +kernel
theorem d_Reader_build_178 : decode k_Reader_build 178 = .ok (.iinc 4 1, 3) := by decide +kernel
theorem d_Reader_build_181 : decode k_Reader_build 181 = .ok (.goto (-167), 3) := by decide +kernel
theorem d_Reader_build_184 : decode k_Reader_build 184 = .ok (.return_, 1) := by decide +kernel
theorem d_Reader_wordValue_0 : decode k_Reader_wordValue 0 = .ok (.aload_n 0, 1) := by decide +kernel
theorem d_Reader_wordValue_1 : decode k_Reader_wordValue 1 = .ok (.getfield 28, 3) := by decide +kernel
theorem d_Reader_wordValue_4 : decode k_Reader_wordValue 4 = .ok (.iload_n 1, 1) := by decide +kernel
theorem d_Reader_wordValue_5 : decode k_Reader_wordValue 5 = .ok (.iload_n 2, 1) := by decide +kernel
theorem d_Reader_wordValue_6 : decode k_Reader_wordValue 6 = .ok (.invokevirtual 109, 3) := by decide +kernel
theorem d_Reader_wordValue_9 : decode k_Reader_wordValue 9 = .ok (.ifCond .eq (17), 3) := by decide +kernel
theorem d_Reader_wordValue_12 : decode k_Reader_wordValue 12 = .ok (.iconst 0, 1) := by decide +kernel
theorem d_Reader_wordValue_13 : decode k_Reader_wordValue 13 = .ok (.aload_n 0, 1) := by decide +kernel
theorem d_Reader_wordValue_14 : decode k_Reader_wordValue 14 = .ok (.getfield 28, 3) := by decide +kernel
theorem d_Reader_wordValue_17 : decode k_Reader_wordValue 17 = .ok (.iload_n 1, 1) := by decide +kernel
theorem d_Reader_wordValue_18 : decode k_Reader_wordValue 18 = .ok (.iload_n 2, 1) := by decide +kernel
theorem d_Reader_wordValue_19 : decode k_Reader_wordValue 19 = .ok (.invokevirtual 122, 3) := by decide +kernel
theorem d_Reader_wordValue_22 : decode k_Reader_wordValue 22 = .ok (.invokestatic 125, 3) := by decide +kernel
theorem d_Reader_wordValue_25 : decode k_Reader_wordValue 25 = .ok (.ireturn, 1) := by decide +kernel
theorem d_Reader_wordValue_26 : decode k_Reader_wordValue 26 = .ok (.aload_n 0, 1) := by decide +kernel
theorem d_Reader_wordValue_27 : decode k_Reader_wordValue 27 = .ok (.getfield 32, 3) := by decide +kernel
theorem d_Reader_wordValue_30 : decode k_Reader_wordValue 30 = .ok (.aload_n 0, 1) := by decide +kernel
theorem d_Reader_wordValue_31 : decode k_Reader_wordValue 31 = .ok (.getfield 28, 3) := by decide +kernel
theorem d_Reader_wordValue_34 : decode k_Reader_wordValue 34 = .ok (.iload_n 1, 1) := by decide +kernel
theorem d_Reader_wordValue_35 : decode k_Reader_wordValue 35 = .ok (.iload_n 2, 1) := by decide +kernel
theorem d_Reader_wordValue_36 : decode k_Reader_wordValue 36 = .ok (.invokevirtual 96, 3) := by decide +kernel
theorem d_Reader_wordValue_39 : decode k_Reader_wordValue 39 = .ok (.invokevirtual 128, 3) := by decide +kernel
theorem d_Reader_wordValue_42 : decode k_Reader_wordValue 42 = .ok (.istore_n 3, 1) := by decide +kernel
theorem d_Reader_wordValue_43 : decode k_Reader_wordValue 43 = .ok (.iload_n 3, 1) := by decide +kernel
theorem d_Reader_wordValue_44 : decode k_Reader_wordValue 44 = .ok (.ifCond .ge (7), 3) := by decide +kernel
theorem d_Reader_wordValue_47 : decode k_Reader_wordValue 47 = .ok (.iconst 2, 1) := by decide +kernel
theorem d_Reader_wordValue_48 : decode k_Reader_wordValue 48 = .ok (.goto (8), 3) := by decide +kernel
theorem d_Reader_wordValue_51 : decode k_Reader_wordValue 51 = .ok (.iconst 1, 1) := by decide +kernel
theorem d_Reader_wordValue_52 : decode k_Reader_wordValue 52 = .ok (.iload_n 3, 1) := by decide +kernel
theorem d_Reader_wordValue_53 : decode k_Reader_wordValue 53 = .ok (.invokestatic 125, 3) := by decide +kernel
theorem d_Reader_wordValue_56 : decode k_Reader_wordValue 56 = .ok (.ireturn, 1) := by decide +kernel
theorem d_Reader_place_0 : decode k_Reader_place 0 = .ok (.iload_n 1, 1) := by decide +kernel
theorem d_Reader_place_1 : decode k_Reader_place 1 = .ok (.istore 4, 2) := by decide +kernel
theorem d_Reader_place_3 : decode k_Reader_place 3 = .ok (.iload_n 2, 1) := by decide +kernel
theorem d_Reader_place_4 : decode k_Reader_place 4 = .ok (.ifCond .eq (27), 3) := by decide +kernel
theorem d_Reader_place_7 : decode k_Reader_place 7 = .ok (.aload_n 0, 1) := by decide +kernel
theorem d_Reader_place_8 : decode k_Reader_place 8 = .ok (.getfield 36, 3) := by decide +kernel
theorem d_Reader_place_11 : decode k_Reader_place 11 = .ok (.iconst 1, 1) := by decide +kernel
theorem d_Reader_place_12 : decode k_Reader_place 12 = .ok (.bipush 10, 2) := by decide +kernel
theorem d_Reader_place_14 : decode k_Reader_place 14 = .ok (.invokestatic 125, 3) := by decide +kernel
theorem d_Reader_place_17 : decode k_Reader_place 17 = .ok (.aload_n 0, 1) := by decide +kernel
theorem d_Reader_place_18 : decode k_Reader_place 18 = .ok (.getfield 36, 3) := by decide +kernel
theorem d_Reader_place_21 : decode k_Reader_place 21 = .ok (.iload_n 1, 1) := by decide +kernel
theorem d_Reader_place_22 : decode k_Reader_place 22 = .ok (.iconst 2, 1) := by decide +kernel
theorem d_Reader_place_23 : decode k_Reader_place 23 = .ok (.invokevirtual 132, 3) := by decide +kernel
theorem d_Reader_place_26 : decode k_Reader_place 26 = .ok (.invokevirtual 132, 3) := by decide +kernel
theorem d_Reader_place_29 : decode k_Reader_place 29 = .ok (.istore 4, 2) := by decide +kernel
theorem d_Reader_place_31 : decode k_Reader_place 31 = .ok (.iload_n 3, 1) := by decide +kernel
theorem d_Reader_place_32 : decode k_Reader_place 32 = .ok (.iconst 1, 1) := by decide +kernel
theorem d_Reader_place_33 : decode k_Reader_place 33 = .ok (.if_icmp .lt (9), 3) := by decide +kernel
theorem d_Reader_place_36 : decode k_Reader_place 36 = .ok (.iload_n 3, 1) := by decide +kernel
theorem d_Reader_place_37 : decode k_Reader_place 37 = .ok (.bipush 10, 2) := by decide +kernel
theorem d_Reader_place_39 : decode k_Reader_place 39 = .ok (.if_icmp .le (10), 3) := by decide +kernel
theorem d_Reader_place_42 : decode k_Reader_place 42 = .ok (.aload_n 0, 1) := by decide +kernel
theorem d_Reader_place_43 : decode k_Reader_place 43 = .ok (.iload 4, 2) := by decide +kernel
theorem d_Reader_place_45 : decode k_Reader_place 45 = .ok (.putfield 11, 3) := by decide +kernel
theorem d_Reader_place_48 : decode k_Reader_place 48 = .ok (.return_, 1) := by decide +kernel
theorem d_Reader_place_49 : decode k_Reader_place 49 = .ok (.aload_n 0, 1) := by decide +kernel
theorem d_Reader_place_50 : decode k_Reader_place 50 = .ok (.getfield 36, 3) := by decide +kernel
theorem d_Reader_place_53 : decode k_Reader_place 53 = .ok (.iload 4, 2) := by decide +kernel
theorem d_Reader_place_55 : decode k_Reader_place 55 = .ok (.iconst 2, 1) := by decide +kernel
theorem d_Reader_place_56 : decode k_Reader_place 56 = .ok (.invokevirtual 132, 3) := by decide +kernel
theorem d_Reader_place_59 : decode k_Reader_place 59 = .ok (.istore 5, 2) := by decide +kernel
theorem d_Reader_place_61 : decode k_Reader_place 61 = .ok (.aload_n 0, 1) := by decide +kernel
theorem d_Reader_place_62 : decode k_Reader_place 62 = .ok (.getfield 17, 3) := by decide +kernel
theorem d_Reader_place_65 : decode k_Reader_place 65 = .ok (.iload_n 3, 1) := by decide +kernel
theorem d_Reader_place_66 : decode k_Reader_place 66 = .ok (.iaload, 1) := by decide +kernel
theorem d_Reader_place_67 : decode k_Reader_place 67 = .ok (.iconst 2, 1) := by decide +kernel
theorem d_Reader_place_68 : decode k_Reader_place 68 = .ok (.if_icmp .ne (14), 3) := by decide +kernel
theorem d_Reader_place_71 : decode k_Reader_place 71 = .ok (.aload_n 0, 1) := by decide +kernel
theorem d_Reader_place_72 : decode k_Reader_place 72 = .ok (.getfield 17, 3) := by decide +kernel
theorem d_Reader_place_75 : decode k_Reader_place 75 = .ok (.iload_n 3, 1) := by decide +kernel
theorem d_Reader_place_76 : decode k_Reader_place 76 = .ok (.iload 5, 2) := by decide +kernel
theorem d_Reader_place_78 : decode k_Reader_place 78 = .ok (.iastore, 1) := by decide +kernel
theorem d_Reader_place_79 : decode k_Reader_place 79 = .ok (.goto (18), 3) := by decide +kernel
theorem d_Reader_place_82 : decode k_Reader_place 82 = .ok (.aload_n 0, 1) := by decide +kernel
theorem d_Reader_place_83 : decode k_Reader_place 83 = .ok (.getfield 36, 3) := by decide +kernel
theorem d_Reader_place_86 : decode k_Reader_place 86 = .ok (.aload_n 0, 1) := by decide +kernel
theorem d_Reader_place_87 : decode k_Reader_place 87 = .ok (.getfield 21, 3) := by decide +kernel
theorem d_Reader_place_90 : decode k_Reader_place 90 = .ok (.iload_n 3, 1) := by decide +kernel
theorem d_Reader_place_91 : decode k_Reader_place 91 = .ok (.iaload, 1) := by decide +kernel
theorem d_Reader_place_92 : decode k_Reader_place 92 = .ok (.iload 5, 2) := by decide +kernel
theorem d_Reader_place_94 : decode k_Reader_place 94 = .ok (.invokevirtual 135, 3) := by decide +kernel
theorem d_Reader_place_97 : decode k_Reader_place 97 = .ok (.aload_n 0, 1) := by decide +kernel
theorem d_Reader_place_98 : decode k_Reader_place 98 = .ok (.getfield 21, 3) := by decide +kernel
theorem d_Reader_place_101 : decode k_Reader_place 101 = .ok (.iload_n 3, 1) := by decide +kernel
theorem d_Reader_place_102 : decode k_Reader_place 102 = .ok (.iload 5, 2) := by decide +kernel
theorem d_Reader_place_104 : decode k_Reader_place 104 = .ok (.iastore, 1) := by decide +kernel
theorem d_Reader_place_105 : decode k_Reader_place 105 = .ok (.return_, 1) := by decide +kernel
theorem d_Printer_printNumber_0 : decode k_Printer_printNumber 0 = .ok (.iload_n 1, 1) := by decide +kernel
theorem d_Printer_printNumber_1 : decode k_Printer_printNumber 1 = .ok (.ifCond .ge (12), 3) := by decide +kernel
theorem d_Printer_printNumber_4 : decode k_Printer_printNumber 4 = .ok (.aload_n 0, 1) := by decide +kernel
theorem d_Printer_printNumber_5 : decode k_Printer_printNumber 5 = .ok (.getfield 7, 3) := by decide +kernel
theorem d_Printer_printNumber_8 : decode k_Printer_printNumber 8 = .ok (.bipush 45, 2) := by decide +kernel
theorem d_Printer_printNumber_10 : decode k_Printer_printNumber 10 = .ok (.invokevirtual 25, 3) := by decide +kernel
theorem d_Printer_printNumber_13 : decode k_Printer_printNumber 13 = .ok (.iload_n 1, 1) := by decide +kernel
theorem d_Printer_printNumber_14 : decode k_Printer_printNumber 14 = .ok (.invokestatic 87, 3) := by decide +kernel
theorem d_Printer_printNumber_17 : decode k_Printer_printNumber 17 = .ok (.istore_n 2, 1) := by decide +kernel
theorem d_Printer_printNumber_18 : decode k_Printer_printNumber 18 = .ok (.ldc 92, 2) := by decide +kernel
theorem d_Printer_printNumber_20 : decode k_Printer_printNumber 20 = .ok (.istore_n 3, 1) := by decide +kernel
theorem d_Printer_printNumber_21 : decode k_Printer_printNumber 21 = .ok (.iload_n 3, 1) := by decide +kernel
theorem d_Printer_printNumber_22 : decode k_Printer_printNumber 22 = .ok (.ifCond .le (38), 3) := by decide +kernel
theorem d_Printer_printNumber_25 : decode k_Printer_printNumber 25 = .ok (.iload_n 2, 1) := by decide +kernel
theorem d_Printer_printNumber_26 : decode k_Printer_printNumber 26 = .ok (.iload_n 3, 1) := by decide +kernel
theorem d_Printer_printNumber_27 : decode k_Printer_printNumber 27 = .ok (.if_icmp .ge (8), 3) := by decide +kernel
theorem d_Printer_printNumber_30 : decode k_Printer_printNumber 30 = .ok (.iload_n 3, 1) := by decide +kernel
theorem d_Printer_printNumber_31 : decode k_Printer_printNumber 31 = .ok (.iconst 1, 1) := by decide +kernel
theorem d_Printer_printNumber_32 : decode k_Printer_printNumber 32 = .ok (.if_icmp .ne (20), 3) := by decide +kernel
theorem d_Printer_printNumber_35 : decode k_Printer_printNumber 35 = .ok (.aload_n 0, 1) := by decide +kernel
theorem d_Printer_printNumber_36 : decode k_Printer_printNumber 36 = .ok (.getfield 7, 3) := by decide +kernel
theorem d_Printer_printNumber_39 : decode k_Printer_printNumber 39 = .ok (.bipush 48, 2) := by decide +kernel
theorem d_Printer_printNumber_41 : decode k_Printer_printNumber 41 = .ok (.iload_n 2, 1) := by decide +kernel
theorem d_Printer_printNumber_42 : decode k_Printer_printNumber 42 = .ok (.iload_n 3, 1) := by decide +kernel
theorem d_Printer_printNumber_43 : decode k_Printer_printNumber 43 = .ok (.idiv, 1) := by decide +kernel
theorem d_Printer_printNumber_44 : decode k_Printer_printNumber 44 = .ok (.bipush 10, 2) := by decide +kernel
theorem d_Printer_printNumber_46 : decode k_Printer_printNumber 46 = .ok (.irem, 1) := by decide +kernel
theorem d_Printer_printNumber_47 : decode k_Printer_printNumber 47 = .ok (.iadd, 1) := by decide +kernel
theorem d_Printer_printNumber_48 : decode k_Printer_printNumber 48 = .ok (.i2c, 1) := by decide +kernel
theorem d_Printer_printNumber_49 : decode k_Printer_printNumber 49 = .ok (.invokevirtual 25, 3) := by decide +kernel
theorem d_Printer_printNumber_52 : decode k_Printer_printNumber 52 = .ok (.iload_n 3, 1) := by decide +kernel
theorem d_Printer_printNumber_53 : decode k_Printer_printNumber 53 = .ok (.bipush 10, 2) := by decide +kernel
theorem d_Printer_printNumber_55 : decode k_Printer_printNumber 55 = .ok (.idiv, 1) := by decide +kernel
theorem d_Printer_printNumber_56 : decode k_Printer_printNumber 56 = .ok (.istore_n 3, 1) := by decide +kernel
theorem d_Printer_printNumber_57 : decode k_Printer_printNumber 57 = .ok (.goto (-36), 3) := by decide +kernel
theorem d_Printer_printNumber_60 : decode k_Printer_printNumber 60 = .ok (.return_, 1) := by decide +kernel
theorem d_Printer_printName_0 : decode k_Printer_printName 0 = .ok (.bipush 56, 2) := by decide +kernel
theorem d_Printer_printName_2 : decode k_Printer_printName 2 = .ok (.istore_n 3, 1) := by decide +kernel
theorem d_Printer_printName_3 : decode k_Printer_printName 3 = .ok (.iload_n 3, 1) := by decide +kernel
theorem d_Printer_printName_4 : decode k_Printer_printName 4 = .ok (.ifCond .lt (34), 3) := by decide +kernel
theorem d_Printer_printName_7 : decode k_Printer_printName 7 = .ok (.lload_n 1, 1) := by decide +kernel
theorem d_Printer_printName_8 : decode k_Printer_printName 8 = .ok (.iload_n 3, 1) := by decide +kernel
theorem d_Printer_printName_9 : decode k_Printer_printName 9 = .ok (.lushr, 1) := by decide +kernel
theorem d_Printer_printName_10 : decode k_Printer_printName 10 = .ok (.ldc2_w 93, 3) := by decide +kernel
theorem d_Printer_printName_13 : decode k_Printer_printName 13 = .ok (.land, 1) := by decide +kernel
theorem d_Printer_printName_14 : decode k_Printer_printName 14 = .ok (.l2i, 1) := by decide +kernel
theorem d_Printer_printName_15 : decode k_Printer_printName 15 = .ok (.istore 4, 2) := by decide +kernel
theorem d_Printer_printName_17 : decode k_Printer_printName 17 = .ok (.iload 4, 2) := by decide +kernel
theorem d_Printer_printName_19 : decode k_Printer_printName 19 = .ok (.ifCond .eq (13), 3) := by decide +kernel
theorem d_Printer_printName_22 : decode k_Printer_printName 22 = .ok (.aload_n 0, 1) := by decide +kernel
theorem d_Printer_printName_23 : decode k_Printer_printName 23 = .ok (.getfield 7, 3) := by decide +kernel
theorem d_Printer_printName_26 : decode k_Printer_printName 26 = .ok (.iload 4, 2) := by decide +kernel
theorem d_Printer_printName_28 : decode k_Printer_printName 28 = .ok (.i2c, 1) := by decide +kernel
theorem d_Printer_printName_29 : decode k_Printer_printName 29 = .ok (.invokevirtual 25, 3) := by decide +kernel
theorem d_Printer_printName_32 : decode k_Printer_printName 32 = .ok (.iinc 3 (-8), 3) := by decide +kernel
theorem d_Printer_printName_35 : decode k_Printer_printName 35 = .ok (.goto (-32), 3) := by decide +kernel
theorem d_Printer_printName_38 : decode k_Printer_printName 38 = .ok (.return_, 1) := by decide +kernel
theorem d_Md_isNumber_0 : decode k_Md_isNumber 0 = .ok (.iload_n 0, 1) := by decide +kernel
theorem d_Md_isNumber_1 : decode k_Md_isNumber 1 = .ok (.ldc 45, 2) := by decide +kernel
theorem d_Md_isNumber_3 : decode k_Md_isNumber 3 = .ok (.if_icmp .ge (7), 3) := by decide +kernel
theorem d_Md_isNumber_6 : decode k_Md_isNumber 6 = .ok (.iconst 1, 1) := by decide +kernel
theorem d_Md_isNumber_7 : decode k_Md_isNumber 7 = .ok (.goto (4), 3) := by decide +kernel
theorem d_Md_isNumber_10 : decode k_Md_isNumber 10 = .ok (.iconst 0, 1) := by decide +kernel
theorem d_Md_isNumber_11 : decode k_Md_isNumber 11 = .ok (.ireturn, 1) := by decide +kernel
theorem d_Md_isSymbol_0 : decode k_Md_isSymbol 0 = .ok (.iload_n 0, 1) := by decide +kernel
theorem d_Md_isSymbol_1 : decode k_Md_isSymbol 1 = .ok (.ldc 90, 2) := by decide +kernel
theorem d_Md_isSymbol_3 : decode k_Md_isSymbol 3 = .ok (.if_icmp .lt (13), 3) := by decide +kernel
theorem d_Md_isSymbol_6 : decode k_Md_isSymbol 6 = .ok (.iload_n 0, 1) := by decide +kernel
theorem d_Md_isSymbol_7 : decode k_Md_isSymbol 7 = .ok (.ldc 77, 2) := by decide +kernel
theorem d_Md_isSymbol_9 : decode k_Md_isSymbol 9 = .ok (.if_icmp .ge (7), 3) := by decide +kernel
theorem d_Md_isSymbol_12 : decode k_Md_isSymbol 12 = .ok (.iconst 1, 1) := by decide +kernel
theorem d_Md_isSymbol_13 : decode k_Md_isSymbol 13 = .ok (.goto (4), 3) := by decide +kernel
theorem d_Md_isSymbol_16 : decode k_Md_isSymbol 16 = .ok (.iconst 0, 1) := by decide +kernel
theorem d_Md_isSymbol_17 : decode k_Md_isSymbol 17 = .ok (.ireturn, 1) := by decide +kernel
theorem d_Md_isThing_0 : decode k_Md_isThing 0 = .ok (.iload_n 0, 1) := by decide +kernel
theorem d_Md_isThing_1 : decode k_Md_isThing 1 = .ok (.ldc 91, 2) := by decide +kernel
theorem d_Md_isThing_3 : decode k_Md_isThing 3 = .ok (.if_icmp .lt (7), 3) := by decide +kernel
theorem d_Md_isThing_6 : decode k_Md_isThing 6 = .ok (.iconst 1, 1) := by decide +kernel
theorem d_Md_isThing_7 : decode k_Md_isThing 7 = .ok (.goto (4), 3) := by decide +kernel
theorem d_Md_isThing_10 : decode k_Md_isThing 10 = .ok (.iconst 0, 1) := by decide +kernel
theorem d_Md_isThing_11 : decode k_Md_isThing 11 = .ok (.ireturn, 1) := by decide +kernel
theorem d_Md_isPair_0 : decode k_Md_isPair 0 = .ok (.iload_n 1, 1) := by decide +kernel
theorem d_Md_isPair_1 : decode k_Md_isPair 1 = .ok (.invokestatic 92, 3) := by decide +kernel
theorem d_Md_isPair_4 : decode k_Md_isPair 4 = .ok (.ifCond .eq (20), 3) := by decide +kernel
theorem d_Md_isPair_7 : decode k_Md_isPair 7 = .ok (.aload_n 0, 1) := by decide +kernel
theorem d_Md_isPair_8 : decode k_Md_isPair 8 = .ok (.getfield 7, 3) := by decide +kernel
theorem d_Md_isPair_11 : decode k_Md_isPair 11 = .ok (.iload_n 1, 1) := by decide +kernel
theorem d_Md_isPair_12 : decode k_Md_isPair 12 = .ok (.ldc 91, 2) := by decide +kernel
theorem d_Md_isPair_14 : decode k_Md_isPair 14 = .ok (.isub, 1) := by decide +kernel
theorem d_Md_isPair_15 : decode k_Md_isPair 15 = .ok (.iaload, 1) := by decide +kernel
theorem d_Md_isPair_16 : decode k_Md_isPair 16 = .ok (.iconst 2, 1) := by decide +kernel
theorem d_Md_isPair_17 : decode k_Md_isPair 17 = .ok (.if_icmp .ne (7), 3) := by decide +kernel
theorem d_Md_isPair_20 : decode k_Md_isPair 20 = .ok (.iconst 1, 1) := by decide +kernel
theorem d_Md_isPair_21 : decode k_Md_isPair 21 = .ok (.goto (4), 3) := by decide +kernel
theorem d_Md_isPair_24 : decode k_Md_isPair 24 = .ok (.iconst 0, 1) := by decide +kernel
theorem d_Md_isPair_25 : decode k_Md_isPair 25 = .ok (.ireturn, 1) := by decide +kernel
theorem d_Md_isClosure_0 : decode k_Md_isClosure 0 = .ok (.iload_n 1, 1) := by decide +kernel
theorem d_Md_isClosure_1 : decode k_Md_isClosure 1 = .ok (.invokestatic 92, 3) := by decide +kernel
theorem d_Md_isClosure_4 : decode k_Md_isClosure 4 = .ok (.ifCond .eq (20), 3) := by decide +kernel
theorem d_Md_isClosure_7 : decode k_Md_isClosure 7 = .ok (.aload_n 0, 1) := by decide +kernel
theorem d_Md_isClosure_8 : decode k_Md_isClosure 8 = .ok (.getfield 7, 3) := by decide +kernel
theorem d_Md_isClosure_11 : decode k_Md_isClosure 11 = .ok (.iload_n 1, 1) := by decide +kernel
theorem d_Md_isClosure_12 : decode k_Md_isClosure 12 = .ok (.ldc 91, 2) := by decide +kernel
theorem d_Md_isClosure_14 : decode k_Md_isClosure 14 = .ok (.isub, 1) := by decide +kernel
theorem d_Md_isClosure_15 : decode k_Md_isClosure 15 = .ok (.iaload, 1) := by decide +kernel
theorem d_Md_isClosure_16 : decode k_Md_isClosure 16 = .ok (.iconst 3, 1) := by decide +kernel
theorem d_Md_isClosure_17 : decode k_Md_isClosure 17 = .ok (.if_icmp .ne (7), 3) := by decide +kernel
theorem d_Md_isClosure_20 : decode k_Md_isClosure 20 = .ok (.iconst 1, 1) := by decide +kernel
theorem d_Md_isClosure_21 : decode k_Md_isClosure 21 = .ok (.goto (4), 3) := by decide +kernel
theorem d_Md_isClosure_24 : decode k_Md_isClosure 24 = .ok (.iconst 0, 1) := by decide +kernel
theorem d_Md_isClosure_25 : decode k_Md_isClosure 25 = .ok (.ireturn, 1) := by decide +kernel
theorem d_Md_wrap_0 : decode k_Md_wrap 0 = .ok (.iload_n 0, 1) := by decide +kernel
theorem d_Md_wrap_1 : decode k_Md_wrap 1 = .ok (.iconst 3, 1) := by decide +kernel
theorem d_Md_wrap_2 : decode k_Md_wrap 2 = .ok (.ishl, 1) := by decide +kernel
theorem d_Md_wrap_3 : decode k_Md_wrap 3 = .ok (.iconst 3, 1) := by decide +kernel
theorem d_Md_wrap_4 : decode k_Md_wrap 4 = .ok (.ishr, 1) := by decide +kernel
theorem d_Md_wrap_5 : decode k_Md_wrap 5 = .ok (.ireturn, 1) := by decide +kernel
theorem d_Md_car_0 : decode k_Md_car 0 = .ok (.aload_n 0, 1) := by decide +kernel
theorem d_Md_car_1 : decode k_Md_car 1 = .ok (.getfield 13, 3) := by decide +kernel
theorem d_Md_car_4 : decode k_Md_car 4 = .ok (.iload_n 1, 1) := by decide +kernel
theorem d_Md_car_5 : decode k_Md_car 5 = .ok (.ldc 91, 2) := by decide +kernel
theorem d_Md_car_7 : decode k_Md_car 7 = .ok (.isub, 1) := by decide +kernel
theorem d_Md_car_8 : decode k_Md_car 8 = .ok (.iaload, 1) := by decide +kernel
theorem d_Md_car_9 : decode k_Md_car 9 = .ok (.ireturn, 1) := by decide +kernel
theorem d_Md_cdr_0 : decode k_Md_cdr 0 = .ok (.aload_n 0, 1) := by decide +kernel
theorem d_Md_cdr_1 : decode k_Md_cdr 1 = .ok (.getfield 16, 3) := by decide +kernel
theorem d_Md_cdr_4 : decode k_Md_cdr 4 = .ok (.iload_n 1, 1) := by decide +kernel
theorem d_Md_cdr_5 : decode k_Md_cdr 5 = .ok (.ldc 91, 2) := by decide +kernel
theorem d_Md_cdr_7 : decode k_Md_cdr 7 = .ok (.isub, 1) := by decide +kernel
theorem d_Md_cdr_8 : decode k_Md_cdr 8 = .ok (.iaload, 1) := by decide +kernel
theorem d_Md_cdr_9 : decode k_Md_cdr 9 = .ok (.ireturn, 1) := by decide +kernel
theorem d_Md_mark_0 : decode k_Md_mark 0 = .ok (.iload_n 1, 1) := by decide +kernel
theorem d_Md_mark_1 : decode k_Md_mark 1 = .ok (.invokestatic 92, 3) := by decide +kernel
theorem d_Md_mark_4 : decode k_Md_mark 4 = .ok (.ifCond .eq (13), 3) := by decide +kernel
theorem d_Md_mark_7 : decode k_Md_mark 7 = .ok (.aload_n 0, 1) := by decide +kernel
theorem d_Md_mark_8 : decode k_Md_mark 8 = .ok (.getfield 22, 3) := by decide +kernel
theorem d_Md_mark_11 : decode k_Md_mark 11 = .ok (.iload_n 1, 1) := by decide +kernel
theorem d_Md_mark_12 : decode k_Md_mark 12 = .ok (.ldc 91, 2) := by decide +kernel
theorem d_Md_mark_14 : decode k_Md_mark 14 = .ok (.isub, 1) := by decide +kernel
theorem d_Md_mark_15 : decode k_Md_mark 15 = .ok (.iconst 1, 1) := by decide +kernel
theorem d_Md_mark_16 : decode k_Md_mark 16 = .ok (.bastore, 1) := by decide +kernel
theorem d_Md_mark_17 : decode k_Md_mark 17 = .ok (.return_, 1) := by decide +kernel
theorem d_Md_live_0 : decode k_Md_live 0 = .ok (.iconst 0, 1) := by decide +kernel
theorem d_Md_live_1 : decode k_Md_live 1 = .ok (.istore_n 1, 1) := by decide +kernel
theorem d_Md_live_2 : decode k_Md_live 2 = .ok (.iload_n 1, 1) := by decide +kernel
theorem d_Md_live_3 : decode k_Md_live 3 = .ok (.sipush 206, 3) := by decide +kernel
theorem d_Md_live_6 : decode k_Md_live 6 = .ok (.if_icmp .ge (16), 3) := by decide +kernel
theorem d_Md_live_9 : decode k_Md_live 9 = .ok (.aload_n 0, 1) := by decide +kernel
theorem d_Md_live_10 : decode k_Md_live 10 = .ok (.getfield 22, 3) := by decide +kernel
theorem d_Md_live_13 : decode k_Md_live 13 = .ok (.iload_n 1, 1) := by decide +kernel
theorem d_Md_live_14 : decode k_Md_live 14 = .ok (.iconst 0, 1) := by decide +kernel
theorem d_Md_live_15 : decode k_Md_live 15 = .ok (.bastore, 1) := by decide +kernel
theorem d_Md_live_16 : decode k_Md_live 16 = .ok (.iinc 1 1, 3) := by decide +kernel
theorem d_Md_live_19 : decode k_Md_live 19 = .ok (.goto (-17), 3) := by decide +kernel
theorem d_Md_live_22 : decode k_Md_live 22 = .ok (.aload_n 0, 1) := by decide +kernel
theorem d_Md_live_23 : decode k_Md_live 23 = .ok (.aload_n 0, 1) := by decide +kernel
theorem d_Md_live_24 : decode k_Md_live 24 = .ok (.getfield 46, 3) := by decide +kernel
theorem d_Md_live_27 : decode k_Md_live 27 = .ok (.invokevirtual 96, 3) := by decide +kernel
theorem d_Md_live_30 : decode k_Md_live 30 = .ok (.aload_n 0, 1) := by decide +kernel
theorem d_Md_live_31 : decode k_Md_live 31 = .ok (.aload_n 0, 1) := by decide +kernel
theorem d_Md_live_32 : decode k_Md_live 32 = .ok (.getfield 50, 3) := by decide +kernel
theorem d_Md_live_35 : decode k_Md_live 35 = .ok (.invokevirtual 96, 3) := by decide +kernel
theorem d_Md_live_38 : decode k_Md_live 38 = .ok (.iconst 0, 1) := by decide +kernel
theorem d_Md_live_39 : decode k_Md_live 39 = .ok (.istore_n 1, 1) := by decide +kernel
theorem d_Md_live_40 : decode k_Md_live 40 = .ok (.iload_n 1, 1) := by decide +kernel
theorem d_Md_live_41 : decode k_Md_live 41 = .ok (.aload_n 0, 1) := by decide +kernel
theorem d_Md_live_42 : decode k_Md_live 42 = .ok (.getfield 100, 3) := by decide +kernel
theorem d_Md_live_45 : decode k_Md_live 45 = .ok (.if_icmp .ge (39), 3) := by decide +kernel
theorem d_Md_live_48 : decode k_Md_live 48 = .ok (.aload_n 0, 1) := by decide +kernel
theorem d_Md_live_49 : decode k_Md_live 49 = .ok (.aload_n 0, 1) := by decide +kernel
theorem d_Md_live_50 : decode k_Md_live 50 = .ok (.getfield 29, 3) := by decide +kernel
theorem d_Md_live_53 : decode k_Md_live 53 = .ok (.iload_n 1, 1) := by decide +kernel
theorem d_Md_live_54 : decode k_Md_live 54 = .ok (.iaload, 1) := by decide +kernel
theorem d_Md_live_55 : decode k_Md_live 55 = .ok (.invokevirtual 96, 3) := by decide +kernel
theorem d_Md_live_58 : decode k_Md_live 58 = .ok (.aload_n 0, 1) := by decide +kernel
theorem d_Md_live_59 : decode k_Md_live 59 = .ok (.aload_n 0, 1) := by decide +kernel
theorem d_Md_live_60 : decode k_Md_live 60 = .ok (.getfield 32, 3) := by decide +kernel
theorem d_Md_live_63 : decode k_Md_live 63 = .ok (.iload_n 1, 1) := by decide +kernel
theorem d_Md_live_64 : decode k_Md_live 64 = .ok (.iaload, 1) := by decide +kernel
theorem d_Md_live_65 : decode k_Md_live 65 = .ok (.invokevirtual 96, 3) := by decide +kernel
theorem d_Md_live_68 : decode k_Md_live 68 = .ok (.aload_n 0, 1) := by decide +kernel
theorem d_Md_live_69 : decode k_Md_live 69 = .ok (.aload_n 0, 1) := by decide +kernel
theorem d_Md_live_70 : decode k_Md_live 70 = .ok (.getfield 35, 3) := by decide +kernel
theorem d_Md_live_73 : decode k_Md_live 73 = .ok (.iload_n 1, 1) := by decide +kernel
theorem d_Md_live_74 : decode k_Md_live 74 = .ok (.iaload, 1) := by decide +kernel
theorem d_Md_live_75 : decode k_Md_live 75 = .ok (.invokevirtual 96, 3) := by decide +kernel
theorem d_Md_live_78 : decode k_Md_live 78 = .ok (.iinc 1 1, 3) := by decide +kernel
theorem d_Md_live_81 : decode k_Md_live 81 = .ok (.goto (-41), 3) := by decide +kernel
theorem d_Md_live_84 : decode k_Md_live 84 = .ok (.iconst 0, 1) := by decide +kernel
theorem d_Md_live_85 : decode k_Md_live 85 = .ok (.istore_n 1, 1) := by decide +kernel
theorem d_Md_live_86 : decode k_Md_live 86 = .ok (.iload_n 1, 1) := by decide +kernel
theorem d_Md_live_87 : decode k_Md_live 87 = .ok (.aload_n 0, 1) := by decide +kernel
theorem d_Md_live_88 : decode k_Md_live 88 = .ok (.getfield 84, 3) := by decide +kernel
theorem d_Md_live_91 : decode k_Md_live 91 = .ok (.if_icmp .ge (19), 3) := by decide +kernel
theorem d_Md_live_94 : decode k_Md_live 94 = .ok (.aload_n 0, 1) := by decide +kernel
theorem d_Md_live_95 : decode k_Md_live 95 = .ok (.aload_n 0, 1) := by decide +kernel
theorem d_Md_live_96 : decode k_Md_live 96 = .ok (.getfield 42, 3) := by decide +kernel
theorem d_Md_live_99 : decode k_Md_live 99 = .ok (.iload_n 1, 1) := by decide +kernel
theorem d_Md_live_100 : decode k_Md_live 100 = .ok (.iaload, 1) := by decide +kernel
theorem d_Md_live_101 : decode k_Md_live 101 = .ok (.invokevirtual 96, 3) := by decide +kernel
theorem d_Md_live_104 : decode k_Md_live 104 = .ok (.iinc 1 1, 3) := by decide +kernel
theorem d_Md_live_107 : decode k_Md_live 107 = .ok (.goto (-21), 3) := by decide +kernel
theorem d_Md_live_110 : decode k_Md_live 110 = .ok (.iconst 0, 1) := by decide +kernel
theorem d_Md_live_111 : decode k_Md_live 111 = .ok (.istore_n 1, 1) := by decide +kernel
theorem d_Md_live_112 : decode k_Md_live 112 = .ok (.iconst (-1), 1) := by decide +kernel
theorem d_Md_live_113 : decode k_Md_live 113 = .ok (.istore_n 2, 1) := by decide +kernel
theorem d_Md_live_114 : decode k_Md_live 114 = .ok (.iload_n 1, 1) := by decide +kernel
theorem d_Md_live_115 : decode k_Md_live 115 = .ok (.iload_n 2, 1) := by decide +kernel
theorem d_Md_live_116 : decode k_Md_live 116 = .ok (.if_icmp .eq (86), 3) := by decide +kernel
theorem d_Md_live_119 : decode k_Md_live 119 = .ok (.iload_n 1, 1) := by decide +kernel
theorem d_Md_live_120 : decode k_Md_live 120 = .ok (.istore_n 2, 1) := by decide +kernel
theorem d_Md_live_121 : decode k_Md_live 121 = .ok (.iconst 0, 1) := by decide +kernel
theorem d_Md_live_122 : decode k_Md_live 122 = .ok (.istore_n 1, 1) := by decide +kernel
theorem d_Md_live_123 : decode k_Md_live 123 = .ok (.iconst 0, 1) := by decide +kernel
theorem d_Md_live_124 : decode k_Md_live 124 = .ok (.istore_n 3, 1) := by decide +kernel
theorem d_Md_live_125 : decode k_Md_live 125 = .ok (.iload_n 3, 1) := by decide +kernel
theorem d_Md_live_126 : decode k_Md_live 126 = .ok (.sipush 206, 3) := by decide +kernel
theorem d_Md_live_129 : decode k_Md_live 129 = .ok (.if_icmp .ge (70), 3) := by decide +kernel
theorem d_Md_live_132 : decode k_Md_live 132 = .ok (.aload_n 0, 1) := by decide +kernel
theorem d_Md_live_133 : decode k_Md_live 133 = .ok (.getfield 22, 3) := by decide +kernel
theorem d_Md_live_136 : decode k_Md_live 136 = .ok (.iload_n 3, 1) := by decide +kernel
theorem d_Md_live_137 : decode k_Md_live 137 = .ok (.baload, 1) := by decide +kernel
theorem d_Md_live_138 : decode k_Md_live 138 = .ok (.ifCond .ne (6), 3) := by decide +kernel
theorem d_Md_live_141 : decode k_Md_live 141 = .ok (.goto (52), 3) := by decide +kernel
theorem d_Md_live_144 : decode k_Md_live 144 = .ok (.aload_n 0, 1) := by decide +kernel
theorem d_Md_live_145 : decode k_Md_live 145 = .ok (.aload_n 0, 1) := by decide +kernel
theorem d_Md_live_146 : decode k_Md_live 146 = .ok (.getfield 13, 3) := by decide +kernel
theorem d_Md_live_149 : decode k_Md_live 149 = .ok (.iload_n 3, 1) := by decide +kernel
theorem d_Md_live_150 : decode k_Md_live 150 = .ok (.iaload, 1) := by decide +kernel
theorem d_Md_live_151 : decode k_Md_live 151 = .ok (.invokevirtual 96, 3) := by decide +kernel
theorem d_Md_live_154 : decode k_Md_live 154 = .ok (.aload_n 0, 1) := by decide +kernel
theorem d_Md_live_155 : decode k_Md_live 155 = .ok (.aload_n 0, 1) := by decide +kernel
theorem d_Md_live_156 : decode k_Md_live 156 = .ok (.getfield 16, 3) := by decide +kernel
theorem d_Md_live_159 : decode k_Md_live 159 = .ok (.iload_n 3, 1) := by decide +kernel
theorem d_Md_live_160 : decode k_Md_live 160 = .ok (.iaload, 1) := by decide +kernel
theorem d_Md_live_161 : decode k_Md_live 161 = .ok (.invokevirtual 96, 3) := by decide +kernel
theorem d_Md_live_164 : decode k_Md_live 164 = .ok (.aload_n 0, 1) := by decide +kernel
theorem d_Md_live_165 : decode k_Md_live 165 = .ok (.getfield 7, 3) := by decide +kernel
theorem d_Md_live_168 : decode k_Md_live 168 = .ok (.iload_n 3, 1) := by decide +kernel
theorem d_Md_live_169 : decode k_Md_live 169 = .ok (.iaload, 1) := by decide +kernel
theorem d_Md_live_170 : decode k_Md_live 170 = .ok (.iconst 3, 1) := by decide +kernel
theorem d_Md_live_171 : decode k_Md_live 171 = .ok (.if_icmp .ne (13), 3) := by decide +kernel
theorem d_Md_live_174 : decode k_Md_live 174 = .ok (.aload_n 0, 1) := by decide +kernel
theorem d_Md_live_175 : decode k_Md_live 175 = .ok (.aload_n 0, 1) := by decide +kernel
theorem d_Md_live_176 : decode k_Md_live 176 = .ok (.getfield 19, 3) := by decide +kernel
theorem d_Md_live_179 : decode k_Md_live 179 = .ok (.iload_n 3, 1) := by decide +kernel
theorem d_Md_live_180 : decode k_Md_live 180 = .ok (.iaload, 1) := by decide +kernel
theorem d_Md_live_181 : decode k_Md_live 181 = .ok (.invokevirtual 96, 3) := by decide +kernel
theorem d_Md_live_184 : decode k_Md_live 184 = .ok (.iload_n 1, 1) := by decide +kernel
theorem d_Md_live_185 : decode k_Md_live 185 = .ok (.aload_n 0, 1) := by decide +kernel
theorem d_Md_live_186 : decode k_Md_live 186 = .ok (.getfield 7, 3) := by decide +kernel
theorem d_Md_live_189 : decode k_Md_live 189 = .ok (.iload_n 3, 1) := by decide +kernel
theorem d_Md_live_190 : decode k_Md_live 190 = .ok (.iaload, 1) := by decide +kernel
theorem d_Md_live_191 : decode k_Md_live 191 = .ok (.iadd, 1) := by decide +kernel
theorem d_Md_live_192 : decode k_Md_live 192 = .ok (.istore_n 1, 1) := by decide +kernel
theorem d_Md_live_193 : decode k_Md_live 193 = .ok (.iinc 3 1, 3) := by decide +kernel
theorem d_Md_live_196 : decode k_Md_live 196 = .ok (.goto (-71), 3) := by decide +kernel
theorem d_Md_live_199 : decode k_Md_live 199 = .ok (.goto (-85), 3) := by decide +kernel
theorem d_Md_live_202 : decode k_Md_live 202 = .ok (.iload_n 1, 1) := by decide +kernel
theorem d_Md_live_203 : decode k_Md_live 203 = .ok (.ireturn, 1) := by decide +kernel
theorem d_Md_room_0 : decode k_Md_room 0 = .ok (.aload_n 0, 1) := by decide +kernel
theorem d_Md_room_1 : decode k_Md_room 1 = .ok (.invokevirtual 103, 3) := by decide +kernel
theorem d_Md_room_4 : decode k_Md_room 4 = .ok (.iload_n 1, 1) := by decide +kernel
theorem d_Md_room_5 : decode k_Md_room 5 = .ok (.iadd, 1) := by decide +kernel
theorem d_Md_room_6 : decode k_Md_room 6 = .ok (.aload_n 0, 1) := by decide +kernel
theorem d_Md_room_7 : decode k_Md_room 7 = .ok (.getfield 74, 3) := by decide +kernel
theorem d_Md_room_10 : decode k_Md_room 10 = .ok (.if_icmp .gt (7), 3) := by decide +kernel
theorem d_Md_room_13 : decode k_Md_room 13 = .ok (.iconst 1, 1) := by decide +kernel
theorem d_Md_room_14 : decode k_Md_room 14 = .ok (.goto (4), 3) := by decide +kernel
theorem d_Md_room_17 : decode k_Md_room 17 = .ok (.iconst 0, 1) := by decide +kernel
theorem d_Md_room_18 : decode k_Md_room 18 = .ok (.istore_n 2, 1) := by decide +kernel
theorem d_Md_room_19 : decode k_Md_room 19 = .ok (.iconst 0, 1) := by decide +kernel
theorem d_Md_room_20 : decode k_Md_room 20 = .ok (.istore_n 3, 1) := by decide +kernel
theorem d_Md_room_21 : decode k_Md_room 21 = .ok (.iload_n 3, 1) := by decide +kernel
theorem d_Md_room_22 : decode k_Md_room 22 = .ok (.sipush 206, 3) := by decide +kernel
theorem d_Md_room_25 : decode k_Md_room 25 = .ok (.if_icmp .ge (34), 3) := by decide +kernel
theorem d_Md_room_28 : decode k_Md_room 28 = .ok (.aload_n 0, 1) := by decide +kernel
theorem d_Md_room_29 : decode k_Md_room 29 = .ok (.getfield 7, 3) := by decide +kernel
theorem d_Md_room_32 : decode k_Md_room 32 = .ok (.iload_n 3, 1) := by decide +kernel
theorem d_Md_room_33 : decode k_Md_room 33 = .ok (.aload_n 0, 1) := by decide +kernel
theorem d_Md_room_34 : decode k_Md_room 34 = .ok (.getfield 22, 3) := by decide +kernel
theorem d_Md_room_37 : decode k_Md_room 37 = .ok (.iload_n 3, 1) := by decide +kernel
theorem d_Md_room_38 : decode k_Md_room 38 = .ok (.baload, 1) := by decide +kernel
theorem d_Md_room_39 : decode k_Md_room 39 = .ok (.ifCond .eq (12), 3) := by decide +kernel
theorem d_Md_room_42 : decode k_Md_room 42 = .ok (.aload_n 0, 1) := by decide +kernel
theorem d_Md_room_43 : decode k_Md_room 43 = .ok (.getfield 7, 3) := by decide +kernel
theorem d_Md_room_46 : decode k_Md_room 46 = .ok (.iload_n 3, 1) := by decide +kernel
theorem d_Md_room_47 : decode k_Md_room 47 = .ok (.iaload, 1) := by decide +kernel
theorem d_Md_room_48 : decode k_Md_room 48 = .ok (.goto (4), 3) := by decide +kernel
theorem d_Md_room_51 : decode k_Md_room 51 = .ok (.iconst 0, 1) := by decide +kernel
theorem d_Md_room_52 : decode k_Md_room 52 = .ok (.iastore, 1) := by decide +kernel
theorem d_Md_room_53 : decode k_Md_room 53 = .ok (.iinc 3 1, 3) := by decide +kernel
theorem d_Md_room_56 : decode k_Md_room 56 = .ok (.goto (-35), 3) := by decide +kernel
theorem d_Md_room_59 : decode k_Md_room 59 = .ok (.iload_n 2, 1) := by decide +kernel
theorem d_Md_room_60 : decode k_Md_room 60 = .ok (.ireturn, 1) := by decide +kernel
theorem d_Md_make_0 : decode k_Md_make 0 = .ok (.iconst 0, 1) := by decide +kernel
theorem d_Md_make_1 : decode k_Md_make 1 = .ok (.istore 5, 2) := by decide +kernel
theorem d_Md_make_3 : decode k_Md_make 3 = .ok (.aload_n 0, 1) := by decide +kernel
theorem d_Md_make_4 : decode k_Md_make 4 = .ok (.getfield 7, 3) := by decide +kernel
theorem d_Md_make_7 : decode k_Md_make 7 = .ok (.iload 5, 2) := by decide +kernel
theorem d_Md_make_9 : decode k_Md_make 9 = .ok (.iaload, 1) := by decide +kernel
theorem d_Md_make_10 : decode k_Md_make 10 = .ok (.ifCond .eq (9), 3) := by decide +kernel
theorem d_Md_make_13 : decode k_Md_make 13 = .ok (.iinc 5 1, 3) := by decide +kernel
theorem d_Md_make_16 : decode k_Md_make 16 = .ok (.goto (-13), 3) := by decide +kernel
theorem d_Md_make_19 : decode k_Md_make 19 = .ok (.aload_n 0, 1) := by decide +kernel
theorem d_Md_make_20 : decode k_Md_make 20 = .ok (.getfield 7, 3) := by decide +kernel
theorem d_Md_make_23 : decode k_Md_make 23 = .ok (.iload 5, 2) := by decide +kernel
theorem d_Md_make_25 : decode k_Md_make 25 = .ok (.iload_n 1, 1) := by decide +kernel
theorem d_Md_make_26 : decode k_Md_make 26 = .ok (.iastore, 1) := by decide +kernel
theorem d_Md_make_27 : decode k_Md_make 27 = .ok (.aload_n 0, 1) := by decide +kernel
theorem d_Md_make_28 : decode k_Md_make 28 = .ok (.getfield 13, 3) := by decide +kernel
theorem d_Md_make_31 : decode k_Md_make 31 = .ok (.iload 5, 2) := by decide +kernel
theorem d_Md_make_33 : decode k_Md_make 33 = .ok (.iload_n 2, 1) := by decide +kernel
theorem d_Md_make_34 : decode k_Md_make 34 = .ok (.iastore, 1) := by decide +kernel
theorem d_Md_make_35 : decode k_Md_make 35 = .ok (.aload_n 0, 1) := by decide +kernel
theorem d_Md_make_36 : decode k_Md_make 36 = .ok (.getfield 16, 3) := by decide +kernel
theorem d_Md_make_39 : decode k_Md_make 39 = .ok (.iload 5, 2) := by decide +kernel
theorem d_Md_make_41 : decode k_Md_make 41 = .ok (.iload_n 3, 1) := by decide +kernel
theorem d_Md_make_42 : decode k_Md_make 42 = .ok (.iastore, 1) := by decide +kernel
theorem d_Md_make_43 : decode k_Md_make 43 = .ok (.aload_n 0, 1) := by decide +kernel
theorem d_Md_make_44 : decode k_Md_make 44 = .ok (.getfield 19, 3) := by decide +kernel
theorem d_Md_make_47 : decode k_Md_make 47 = .ok (.iload 5, 2) := by decide +kernel
theorem d_Md_make_49 : decode k_Md_make 49 = .ok (.iload 4, 2) := by decide +kernel
theorem d_Md_make_51 : decode k_Md_make 51 = .ok (.iastore, 1) := by decide +kernel
theorem d_Md_make_52 : decode k_Md_make 52 = .ok (.ldc 91, 2) := by decide +kernel
theorem d_Md_make_54 : decode k_Md_make 54 = .ok (.iload 5, 2) := by decide +kernel
theorem d_Md_make_56 : decode k_Md_make 56 = .ok (.iadd, 1) := by decide +kernel
theorem d_Md_make_57 : decode k_Md_make 57 = .ok (.ireturn, 1) := by decide +kernel
theorem d_Md_pair_0 : decode k_Md_pair 0 = .ok (.aload_n 0, 1) := by decide +kernel
theorem d_Md_pair_1 : decode k_Md_pair 1 = .ok (.iconst 2, 1) := by decide +kernel
theorem d_Md_pair_2 : decode k_Md_pair 2 = .ok (.iload_n 1, 1) := by decide +kernel
theorem d_Md_pair_3 : decode k_Md_pair 3 = .ok (.iload_n 2, 1) := by decide +kernel
theorem d_Md_pair_4 : decode k_Md_pair 4 = .ok (.ldc 45, 2) := by decide +kernel
theorem d_Md_pair_6 : decode k_Md_pair 6 = .ok (.invokevirtual 107, 3) := by decide +kernel
theorem d_Md_pair_9 : decode k_Md_pair 9 = .ok (.ireturn, 1) := by decide +kernel
theorem d_Md_feed_0 : decode k_Md_feed 0 = .ok (.aload_n 0, 1) := by decide +kernel
theorem d_Md_feed_1 : decode k_Md_feed 1 = .ok (.iconst 0, 1) := by decide +kernel
theorem d_Md_feed_2 : decode k_Md_feed 2 = .ok (.putfield 87, 3) := by decide +kernel
theorem d_Md_feed_5 : decode k_Md_feed 5 = .ok (.iload_n 2, 1) := by decide +kernel
theorem d_Md_feed_6 : decode k_Md_feed 6 = .ok (.iconst 1, 1) := by decide +kernel
theorem d_Md_feed_7 : decode k_Md_feed 7 = .ok (.if_icmp .lt (19), 3) := by decide +kernel
theorem d_Md_feed_10 : decode k_Md_feed 10 = .ok (.iload_n 2, 1) := by decide +kernel
theorem d_Md_feed_11 : decode k_Md_feed 11 = .ok (.iconst 4, 1) := by decide +kernel
theorem d_Md_feed_12 : decode k_Md_feed 12 = .ok (.if_icmp .gt (14), 3) := by decide +kernel
theorem d_Md_feed_15 : decode k_Md_feed 15 = .ok (.aload_n 0, 1) := by decide +kernel
theorem d_Md_feed_16 : decode k_Md_feed 16 = .ok (.getfield 111, 3) := by decide +kernel
theorem d_Md_feed_19 : decode k_Md_feed 19 = .ok (.iload_n 2, 1) := by decide +kernel
theorem d_Md_feed_20 : decode k_Md_feed 20 = .ok (.iadd, 1) := by decide +kernel
theorem d_Md_feed_21 : decode k_Md_feed 21 = .ok (.bipush 120, 2) := by decide +kernel
theorem d_Md_feed_23 : decode k_Md_feed 23 = .ok (.if_icmp .le (5), 3) := by decide +kernel
theorem d_Md_feed_26 : decode k_Md_feed 26 = .ok (.iconst 0, 1) := by decide +kernel
theorem d_Md_feed_27 : decode k_Md_feed 27 = .ok (.ireturn, 1) := by decide +kernel
theorem d_Md_feed_28 : decode k_Md_feed 28 = .ok (.iconst 0, 1) := by decide +kernel
theorem d_Md_feed_29 : decode k_Md_feed 29 = .ok (.istore_n 3, 1) := by decide +kernel
theorem d_Md_feed_30 : decode k_Md_feed 30 = .ok (.iload_n 3, 1) := by decide +kernel
theorem d_Md_feed_31 : decode k_Md_feed 31 = .ok (.iload_n 2, 1) := by decide +kernel
theorem d_Md_feed_32 : decode k_Md_feed 32 = .ok (.if_icmp .ge (44), 3) := by decide +kernel
theorem d_Md_feed_35 : decode k_Md_feed 35 = .ok (.iload_n 1, 1) := by decide +kernel
theorem d_Md_feed_36 : decode k_Md_feed 36 = .ok (.bipush 8, 2) := by decide +kernel
theorem d_Md_feed_38 : decode k_Md_feed 38 = .ok (.iload_n 3, 1) := by decide +kernel
theorem d_Md_feed_39 : decode k_Md_feed 39 = .ok (.imul, 1) := by decide +kernel
theorem d_Md_feed_40 : decode k_Md_feed 40 = .ok (.ishr, 1) := by decide +kernel
theorem d_Md_feed_41 : decode k_Md_feed 41 = .ok (.sipush 255, 3) := by decide +kernel
theorem d_Md_feed_44 : decode k_Md_feed 44 = .ok (.iand, 1) := by decide +kernel
theorem d_Md_feed_45 : decode k_Md_feed 45 = .ok (.istore 4, 2) := by decide +kernel
theorem d_Md_feed_47 : decode k_Md_feed 47 = .ok (.iload 4, 2) := by decide +kernel
theorem d_Md_feed_49 : decode k_Md_feed 49 = .ok (.bipush 10, 2) := by decide +kernel
theorem d_Md_feed_51 : decode k_Md_feed 51 = .ok (.if_icmp .eq (19), 3) := by decide +kernel
theorem d_Md_feed_54 : decode k_Md_feed 54 = .ok (.iload 4, 2) := by decide +kernel
theorem d_Md_feed_56 : decode k_Md_feed 56 = .ok (.bipush 32, 2) := by decide +kernel
theorem d_Md_feed_58 : decode k_Md_feed 58 = .ok (.if_icmp .lt (10), 3) := by decide +kernel
theorem d_Md_feed_61 : decode k_Md_feed 61 = .ok (.iload 4, 2) := by decide +kernel
theorem d_Md_feed_63 : decode k_Md_feed 63 = .ok (.bipush 126, 2) := by decide +kernel
theorem d_Md_feed_65 : decode k_Md_feed 65 = .ok (.if_icmp .le (5), 3) := by decide +kernel
theorem d_Md_feed_68 : decode k_Md_feed 68 = .ok (.iconst 0, 1) := by decide +kernel
theorem d_Md_feed_69 : decode k_Md_feed 69 = .ok (.ireturn, 1) := by decide +kernel
theorem d_Md_feed_70 : decode k_Md_feed 70 = .ok (.iinc 3 1, 3) := by decide +kernel
theorem d_Md_feed_73 : decode k_Md_feed 73 = .ok (.goto (-43), 3) := by decide +kernel
theorem d_Md_feed_76 : decode k_Md_feed 76 = .ok (.iload_n 2, 1) := by decide +kernel
theorem d_Md_feed_77 : decode k_Md_feed 77 = .ok (.iconst 1, 1) := by decide +kernel
theorem d_Md_feed_78 : decode k_Md_feed 78 = .ok (.isub, 1) := by decide +kernel
theorem d_Md_feed_79 : decode k_Md_feed 79 = .ok (.istore_n 3, 1) := by decide +kernel
theorem d_Md_feed_80 : decode k_Md_feed 80 = .ok (.iload_n 3, 1) := by decide +kernel
theorem d_Md_feed_81 : decode k_Md_feed 81 = .ok (.ifCond .lt (39), 3) := by decide +kernel
theorem d_Md_feed_84 : decode k_Md_feed 84 = .ok (.aload_n 0, 1) := by decide +kernel
theorem d_Md_feed_85 : decode k_Md_feed 85 = .ok (.getfield 53, 3) := by decide +kernel
theorem d_Md_feed_88 : decode k_Md_feed 88 = .ok (.aload_n 0, 1) := by decide +kernel
theorem d_Md_feed_89 : decode k_Md_feed 89 = .ok (.getfield 111, 3) := by decide +kernel
theorem d_Md_feed_92 : decode k_Md_feed 92 = .ok (.iload_n 1, 1) := by decide +kernel
theorem d_Md_feed_93 : decode k_Md_feed 93 = .ok (.bipush 8, 2) := by decide +kernel
theorem d_Md_feed_95 : decode k_Md_feed 95 = .ok (.iload_n 3, 1) := by decide +kernel
theorem d_Md_feed_96 : decode k_Md_feed 96 = .ok (.imul, 1) := by decide +kernel
theorem d_Md_feed_97 : decode k_Md_feed 97 = .ok (.ishr, 1) := by decide +kernel
theorem d_Md_feed_98 : decode k_Md_feed 98 = .ok (.sipush 255, 3) := by decide +kernel
theorem d_Md_feed_101 : decode k_Md_feed 101 = .ok (.iand, 1) := by decide +kernel
theorem d_Md_feed_102 : decode k_Md_feed 102 = .ok (.i2c, 1) := by decide +kernel
theorem d_Md_feed_103 : decode k_Md_feed 103 = .ok (.castore, 1) := by decide +kernel
theorem d_Md_feed_104 : decode k_Md_feed 104 = .ok (.aload_n 0, 1) := by decide +kernel
theorem d_Md_feed_105 : decode k_Md_feed 105 = .ok (.dup, 1) := by decide +kernel
theorem d_Md_feed_106 : decode k_Md_feed 106 = .ok (.getfield 111, 3) := by decide +kernel
theorem d_Md_feed_109 : decode k_Md_feed 109 = .ok (.iconst 1, 1) := by decide +kernel
theorem d_Md_feed_110 : decode k_Md_feed 110 = .ok (.iadd, 1) := by decide +kernel
theorem d_Md_feed_111 : decode k_Md_feed 111 = .ok (.putfield 111, 3) := by decide +kernel
theorem d_Md_feed_114 : decode k_Md_feed 114 = .ok (.iinc 3 (-1), 3) := by decide +kernel
theorem d_Md_feed_117 : decode k_Md_feed 117 = .ok (.goto (-37), 3) := by decide +kernel
theorem d_Md_feed_120 : decode k_Md_feed 120 = .ok (.iconst 1, 1) := by decide +kernel
theorem d_Md_feed_121 : decode k_Md_feed 121 = .ok (.ireturn, 1) := by decide +kernel
theorem d_Md_isBlank_0 : decode k_Md_isBlank 0 = .ok (.iload_n 0, 1) := by decide +kernel
theorem d_Md_isBlank_1 : decode k_Md_isBlank 1 = .ok (.bipush 10, 2) := by decide +kernel
theorem d_Md_isBlank_3 : decode k_Md_isBlank 3 = .ok (.if_icmp .eq (9), 3) := by decide +kernel
theorem d_Md_isBlank_6 : decode k_Md_isBlank 6 = .ok (.iload_n 0, 1) := by decide +kernel
theorem d_Md_isBlank_7 : decode k_Md_isBlank 7 = .ok (.bipush 32, 2) := by decide +kernel
theorem d_Md_isBlank_9 : decode k_Md_isBlank 9 = .ok (.if_icmp .ne (7), 3) := by decide +kernel
theorem d_Md_isBlank_12 : decode k_Md_isBlank 12 = .ok (.iconst 1, 1) := by decide +kernel
theorem d_Md_isBlank_13 : decode k_Md_isBlank 13 = .ok (.goto (4), 3) := by decide +kernel
theorem d_Md_isBlank_16 : decode k_Md_isBlank 16 = .ok (.iconst 0, 1) := by decide +kernel
theorem d_Md_isBlank_17 : decode k_Md_isBlank 17 = .ok (.ireturn, 1) := by decide +kernel
theorem d_Md_isSign_0 : decode k_Md_isSign 0 = .ok (.iload_n 0, 1) := by decide +kernel
theorem d_Md_isSign_1 : decode k_Md_isSign 1 = .ok (.bipush 40, 2) := by decide +kernel
theorem d_Md_isSign_3 : decode k_Md_isSign 3 = .ok (.if_icmp .eq (15), 3) := by decide +kernel
theorem d_Md_isSign_6 : decode k_Md_isSign 6 = .ok (.iload_n 0, 1) := by decide +kernel
theorem d_Md_isSign_7 : decode k_Md_isSign 7 = .ok (.bipush 41, 2) := by decide +kernel
theorem d_Md_isSign_9 : decode k_Md_isSign 9 = .ok (.if_icmp .eq (9), 3) := by decide +kernel
theorem d_Md_isSign_12 : decode k_Md_isSign 12 = .ok (.iload_n 0, 1) := by decide +kernel
theorem d_Md_isSign_13 : decode k_Md_isSign 13 = .ok (.bipush 39, 2) := by decide +kernel
theorem d_Md_isSign_15 : decode k_Md_isSign 15 = .ok (.if_icmp .ne (7), 3) := by decide +kernel
theorem d_Md_isSign_18 : decode k_Md_isSign 18 = .ok (.iconst 1, 1) := by decide +kernel
theorem d_Md_isSign_19 : decode k_Md_isSign 19 = .ok (.goto (4), 3) := by decide +kernel
theorem d_Md_isSign_22 : decode k_Md_isSign 22 = .ok (.iconst 0, 1) := by decide +kernel
theorem d_Md_isSign_23 : decode k_Md_isSign 23 = .ok (.ireturn, 1) := by decide +kernel
theorem d_Md_skip_0 : decode k_Md_skip 0 = .ok (.iload_n 1, 1) := by decide +kernel
theorem d_Md_skip_1 : decode k_Md_skip 1 = .ok (.istore_n 2, 1) := by decide +kernel
theorem d_Md_skip_2 : decode k_Md_skip 2 = .ok (.iload_n 2, 1) := by decide +kernel
theorem d_Md_skip_3 : decode k_Md_skip 3 = .ok (.aload_n 0, 1) := by decide +kernel
theorem d_Md_skip_4 : decode k_Md_skip 4 = .ok (.getfield 111, 3) := by decide +kernel
theorem d_Md_skip_7 : decode k_Md_skip 7 = .ok (.if_icmp .ge (21), 3) := by decide +kernel
theorem d_Md_skip_10 : decode k_Md_skip 10 = .ok (.aload_n 0, 1) := by decide +kernel
theorem d_Md_skip_11 : decode k_Md_skip 11 = .ok (.getfield 53, 3) := by decide +kernel
theorem d_Md_skip_14 : decode k_Md_skip 14 = .ok (.iload_n 2, 1) := by decide +kernel
theorem d_Md_skip_15 : decode k_Md_skip 15 = .ok (.caload, 1) := by decide +kernel
theorem d_Md_skip_16 : decode k_Md_skip 16 = .ok (.invokestatic 114, 3) := by decide +kernel
theorem d_Md_skip_19 : decode k_Md_skip 19 = .ok (.ifCond .eq (9), 3) := by decide +kernel
theorem d_Md_skip_22 : decode k_Md_skip 22 = .ok (.iinc 2 1, 3) := by decide +kernel
theorem d_Md_skip_25 : decode k_Md_skip 25 = .ok (.goto (-23), 3) := by decide +kernel
theorem d_Md_skip_28 : decode k_Md_skip 28 = .ok (.iload_n 2, 1) := by decide +kernel
theorem d_Md_skip_29 : decode k_Md_skip 29 = .ok (.ireturn, 1) := by decide +kernel
theorem d_Md_tokenEnd_0 : decode k_Md_tokenEnd 0 = .ok (.aload_n 0, 1) := by decide +kernel
theorem d_Md_tokenEnd_1 : decode k_Md_tokenEnd 1 = .ok (.getfield 53, 3) := by decide +kernel
theorem d_Md_tokenEnd_4 : decode k_Md_tokenEnd 4 = .ok (.iload_n 1, 1) := by decide +kernel
theorem d_Md_tokenEnd_5 : decode k_Md_tokenEnd 5 = .ok (.caload, 1) := by decide +kernel
theorem d_Md_tokenEnd_6 : decode k_Md_tokenEnd 6 = .ok (.invokestatic 118, 3) := by decide +kernel
theorem d_Md_tokenEnd_9 : decode k_Md_tokenEnd 9 = .ok (.ifCond .eq (7), 3) := by decide +kernel
theorem d_Md_tokenEnd_12 : decode k_Md_tokenEnd 12 = .ok (.iload_n 1, 1) := by decide +kernel
theorem d_Md_tokenEnd_13 : decode k_Md_tokenEnd 13 = .ok (.iconst 1, 1) := by decide +kernel
theorem d_Md_tokenEnd_14 : decode k_Md_tokenEnd 14 = .ok (.iadd, 1) := by decide +kernel
theorem d_Md_tokenEnd_15 : decode k_Md_tokenEnd 15 = .ok (.ireturn, 1) := by decide +kernel
theorem d_Md_tokenEnd_16 : decode k_Md_tokenEnd 16 = .ok (.iload_n 1, 1) := by decide +kernel
theorem d_Md_tokenEnd_17 : decode k_Md_tokenEnd 17 = .ok (.istore_n 2, 1) := by decide +kernel
theorem d_Md_tokenEnd_18 : decode k_Md_tokenEnd 18 = .ok (.iload_n 2, 1) := by decide +kernel
theorem d_Md_tokenEnd_19 : decode k_Md_tokenEnd 19 = .ok (.aload_n 0, 1) := by decide +kernel
theorem d_Md_tokenEnd_20 : decode k_Md_tokenEnd 20 = .ok (.getfield 111, 3) := by decide +kernel
theorem d_Md_tokenEnd_23 : decode k_Md_tokenEnd 23 = .ok (.if_icmp .ge (33), 3) := by decide +kernel
theorem d_Md_tokenEnd_26 : decode k_Md_tokenEnd 26 = .ok (.aload_n 0, 1) := by decide +kernel
theorem d_Md_tokenEnd_27 : decode k_Md_tokenEnd 27 = .ok (.getfield 53, 3) := by decide +kernel
theorem d_Md_tokenEnd_30 : decode k_Md_tokenEnd 30 = .ok (.iload_n 2, 1) := by decide +kernel
theorem d_Md_tokenEnd_31 : decode k_Md_tokenEnd 31 = .ok (.caload, 1) := by decide +kernel
theorem d_Md_tokenEnd_32 : decode k_Md_tokenEnd 32 = .ok (.invokestatic 114, 3) := by decide +kernel
theorem d_Md_tokenEnd_35 : decode k_Md_tokenEnd 35 = .ok (.ifCond .ne (21), 3) := by decide +kernel
theorem d_Md_tokenEnd_38 : decode k_Md_tokenEnd 38 = .ok (.aload_n 0, 1) := by decide +kernel
theorem d_Md_tokenEnd_39 : decode k_Md_tokenEnd 39 = .ok (.getfield 53, 3) := by decide +kernel
theorem d_Md_tokenEnd_42 : decode k_Md_tokenEnd 42 = .ok (.iload_n 2, 1) := by decide +kernel
theorem d_Md_tokenEnd_43 : decode k_Md_tokenEnd 43 = .ok (.caload, 1) := by decide +kernel
theorem d_Md_tokenEnd_44 : decode k_Md_tokenEnd 44 = .ok (.invokestatic 118, 3) := by decide +kernel
theorem d_Md_tokenEnd_47 : decode k_Md_tokenEnd 47 = .ok (.ifCond .ne (9), 3) := by decide +kernel
theorem d_Md_tokenEnd_50 : decode k_Md_tokenEnd 50 = .ok (.iinc 2 1, 3) := by decide +kernel
theorem d_Md_tokenEnd_53 : decode k_Md_tokenEnd 53 = .ok (.goto (-35), 3) := by decide +kernel
theorem d_Md_tokenEnd_56 : decode k_Md_tokenEnd 56 = .ok (.iload_n 2, 1) := by decide +kernel
theorem d_Md_tokenEnd_57 : decode k_Md_tokenEnd 57 = .ok (.ireturn, 1) := by decide +kernel
theorem d_Md_drop_0 : decode k_Md_drop 0 = .ok (.iload_n 1, 1) := by decide +kernel
theorem d_Md_drop_1 : decode k_Md_drop 1 = .ok (.istore_n 2, 1) := by decide +kernel
theorem d_Md_drop_2 : decode k_Md_drop 2 = .ok (.iload_n 2, 1) := by decide +kernel
theorem d_Md_drop_3 : decode k_Md_drop 3 = .ok (.aload_n 0, 1) := by decide +kernel
theorem d_Md_drop_4 : decode k_Md_drop 4 = .ok (.getfield 111, 3) := by decide +kernel
theorem d_Md_drop_7 : decode k_Md_drop 7 = .ok (.if_icmp .ge (23), 3) := by decide +kernel
theorem d_Md_drop_10 : decode k_Md_drop 10 = .ok (.aload_n 0, 1) := by decide +kernel
theorem d_Md_drop_11 : decode k_Md_drop 11 = .ok (.getfield 53, 3) := by decide +kernel
