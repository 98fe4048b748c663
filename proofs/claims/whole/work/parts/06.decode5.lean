theorem d_Md_at_24 : decode k_Md_at 24 = .ok (.iload_n 3, 1) := by decide +kernel
theorem d_Md_at_25 : decode k_Md_at 25 = .ok (.invokevirtual 193, 3) := by decide +kernel
theorem d_Md_at_28 : decode k_Md_at 28 = .ok (.ireturn, 1) := by decide +kernel
theorem d_Md_binding_0 : decode k_Md_binding 0 = .ok (.iload_n 2, 1) := by decide +kernel
theorem d_Md_binding_1 : decode k_Md_binding 1 = .ok (.istore_n 3, 1) := by decide +kernel
theorem d_Md_binding_2 : decode k_Md_binding 2 = .ok (.aload_n 0, 1) := by decide +kernel
theorem d_Md_binding_3 : decode k_Md_binding 3 = .ok (.iload_n 3, 1) := by decide +kernel
theorem d_Md_binding_4 : decode k_Md_binding 4 = .ok (.invokevirtual 187, 3) := by decide +kernel
theorem d_Md_binding_7 : decode k_Md_binding 7 = .ok (.ifCond .eq (31), 3) := by decide +kernel
theorem d_Md_binding_10 : decode k_Md_binding 10 = .ok (.aload_n 0, 1) := by decide +kernel
theorem d_Md_binding_11 : decode k_Md_binding 11 = .ok (.aload_n 0, 1) := by decide +kernel
theorem d_Md_binding_12 : decode k_Md_binding 12 = .ok (.iload_n 3, 1) := by decide +kernel
theorem d_Md_binding_13 : decode k_Md_binding 13 = .ok (.invokevirtual 193, 3) := by decide +kernel
theorem d_Md_binding_16 : decode k_Md_binding 16 = .ok (.invokevirtual 193, 3) := by decide +kernel
theorem d_Md_binding_19 : decode k_Md_binding 19 = .ok (.iload_n 1, 1) := by decide +kernel
theorem d_Md_binding_20 : decode k_Md_binding 20 = .ok (.if_icmp .ne (9), 3) := by decide +kernel
theorem d_Md_binding_23 : decode k_Md_binding 23 = .ok (.aload_n 0, 1) := by decide +kernel
theorem d_Md_binding_24 : decode k_Md_binding 24 = .ok (.iload_n 3, 1) := by decide +kernel
theorem d_Md_binding_25 : decode k_Md_binding 25 = .ok (.invokevirtual 193, 3) := by decide +kernel
theorem d_Md_binding_28 : decode k_Md_binding 28 = .ok (.ireturn, 1) := by decide +kernel
theorem d_Md_binding_29 : decode k_Md_binding 29 = .ok (.aload_n 0, 1) := by decide +kernel
theorem d_Md_binding_30 : decode k_Md_binding 30 = .ok (.iload_n 3, 1) := by decide +kernel
theorem d_Md_binding_31 : decode k_Md_binding 31 = .ok (.invokevirtual 190, 3) := by decide +kernel
theorem d_Md_binding_34 : decode k_Md_binding 34 = .ok (.istore_n 3, 1) := by decide +kernel
theorem d_Md_binding_35 : decode k_Md_binding 35 = .ok (.goto (-33), 3) := by decide +kernel
theorem d_Md_binding_38 : decode k_Md_binding 38 = .ok (.ldc 45, 2) := by decide +kernel
theorem d_Md_binding_40 : decode k_Md_binding 40 = .ok (.ireturn, 1) := by decide +kernel
theorem d_Md_lookUp_0 : decode k_Md_lookUp 0 = .ok (.aload_n 0, 1) := by decide +kernel
theorem d_Md_lookUp_1 : decode k_Md_lookUp 1 = .ok (.aload_n 0, 1) := by decide +kernel
theorem d_Md_lookUp_2 : decode k_Md_lookUp 2 = .ok (.getfield 46, 3) := by decide +kernel
theorem d_Md_lookUp_5 : decode k_Md_lookUp 5 = .ok (.aload_n 0, 1) := by decide +kernel
theorem d_Md_lookUp_6 : decode k_Md_lookUp 6 = .ok (.getfield 50, 3) := by decide +kernel
theorem d_Md_lookUp_9 : decode k_Md_lookUp 9 = .ok (.invokevirtual 196, 3) := by decide +kernel
theorem d_Md_lookUp_12 : decode k_Md_lookUp 12 = .ok (.istore_n 1, 1) := by decide +kernel
theorem d_Md_lookUp_13 : decode k_Md_lookUp 13 = .ok (.iload_n 1, 1) := by decide +kernel
theorem d_Md_lookUp_14 : decode k_Md_lookUp 14 = .ok (.ldc 45, 2) := by decide +kernel
theorem d_Md_lookUp_16 : decode k_Md_lookUp 16 = .ok (.if_icmp .ne (18), 3) := by decide +kernel
theorem d_Md_lookUp_19 : decode k_Md_lookUp 19 = .ok (.aload_n 0, 1) := by decide +kernel
theorem d_Md_lookUp_20 : decode k_Md_lookUp 20 = .ok (.getfield 42, 3) := by decide +kernel
theorem d_Md_lookUp_23 : decode k_Md_lookUp 23 = .ok (.aload_n 0, 1) := by decide +kernel
theorem d_Md_lookUp_24 : decode k_Md_lookUp 24 = .ok (.getfield 46, 3) := by decide +kernel
theorem d_Md_lookUp_27 : decode k_Md_lookUp 27 = .ok (.ldc 90, 2) := by decide +kernel
theorem d_Md_lookUp_29 : decode k_Md_lookUp 29 = .ok (.isub, 1) := by decide +kernel
theorem d_Md_lookUp_30 : decode k_Md_lookUp 30 = .ok (.iaload, 1) := by decide +kernel
theorem d_Md_lookUp_31 : decode k_Md_lookUp 31 = .ok (.goto (8), 3) := by decide +kernel
theorem d_Md_lookUp_34 : decode k_Md_lookUp 34 = .ok (.aload_n 0, 1) := by decide +kernel
theorem d_Md_lookUp_35 : decode k_Md_lookUp 35 = .ok (.iload_n 1, 1) := by decide +kernel
theorem d_Md_lookUp_36 : decode k_Md_lookUp 36 = .ok (.invokevirtual 190, 3) := by decide +kernel
theorem d_Md_lookUp_39 : decode k_Md_lookUp 39 = .ok (.istore_n 2, 1) := by decide +kernel
theorem d_Md_lookUp_40 : decode k_Md_lookUp 40 = .ok (.iload_n 2, 1) := by decide +kernel
theorem d_Md_lookUp_41 : decode k_Md_lookUp 41 = .ok (.ldc 78, 2) := by decide +kernel
theorem d_Md_lookUp_43 : decode k_Md_lookUp 43 = .ok (.if_icmp .ne (8), 3) := by decide +kernel
theorem d_Md_lookUp_46 : decode k_Md_lookUp 46 = .ok (.bipush (-2), 2) := by decide +kernel
theorem d_Md_lookUp_48 : decode k_Md_lookUp 48 = .ok (.goto (8), 3) := by decide +kernel
theorem d_Md_lookUp_51 : decode k_Md_lookUp 51 = .ok (.aload_n 0, 1) := by decide +kernel
theorem d_Md_lookUp_52 : decode k_Md_lookUp 52 = .ok (.iload_n 2, 1) := by decide +kernel
theorem d_Md_lookUp_53 : decode k_Md_lookUp 53 = .ok (.invokevirtual 199, 3) := by decide +kernel
theorem d_Md_lookUp_56 : decode k_Md_lookUp 56 = .ok (.ireturn, 1) := by decide +kernel
theorem d_Md_areParameters_0 : decode k_Md_areParameters 0 = .ok (.iload_n 1, 1) := by decide +kernel
theorem d_Md_areParameters_1 : decode k_Md_areParameters 1 = .ok (.ldc 45, 2) := by decide +kernel
theorem d_Md_areParameters_3 : decode k_Md_areParameters 3 = .ok (.if_icmp .eq (20), 3) := by decide +kernel
theorem d_Md_areParameters_6 : decode k_Md_areParameters 6 = .ok (.aload_n 0, 1) := by decide +kernel
theorem d_Md_areParameters_7 : decode k_Md_areParameters 7 = .ok (.iload_n 1, 1) := by decide +kernel
theorem d_Md_areParameters_8 : decode k_Md_areParameters 8 = .ok (.invokevirtual 187, 3) := by decide +kernel
theorem d_Md_areParameters_11 : decode k_Md_areParameters 11 = .ok (.ifCond .eq (16), 3) := by decide +kernel
theorem d_Md_areParameters_14 : decode k_Md_areParameters 14 = .ok (.aload_n 0, 1) := by decide +kernel
theorem d_Md_areParameters_15 : decode k_Md_areParameters 15 = .ok (.iload_n 1, 1) := by decide +kernel
theorem d_Md_areParameters_16 : decode k_Md_areParameters 16 = .ok (.invokevirtual 202, 3) := by decide +kernel
theorem d_Md_areParameters_19 : decode k_Md_areParameters 19 = .ok (.iconst 5, 1) := by decide +kernel
theorem d_Md_areParameters_20 : decode k_Md_areParameters 20 = .ok (.if_icmp .ge (7), 3) := by decide +kernel
theorem d_Md_areParameters_23 : decode k_Md_areParameters 23 = .ok (.iconst 1, 1) := by decide +kernel
theorem d_Md_areParameters_24 : decode k_Md_areParameters 24 = .ok (.goto (4), 3) := by decide +kernel
theorem d_Md_areParameters_27 : decode k_Md_areParameters 27 = .ok (.iconst 0, 1) := by decide +kernel
theorem d_Md_areParameters_28 : decode k_Md_areParameters 28 = .ok (.istore_n 2, 1) := by decide +kernel
theorem d_Md_areParameters_29 : decode k_Md_areParameters 29 = .ok (.iload_n 1, 1) := by decide +kernel
theorem d_Md_areParameters_30 : decode k_Md_areParameters 30 = .ok (.istore_n 3, 1) := by decide +kernel
theorem d_Md_areParameters_31 : decode k_Md_areParameters 31 = .ok (.iload_n 2, 1) := by decide +kernel
theorem d_Md_areParameters_32 : decode k_Md_areParameters 32 = .ok (.ifCond .eq (29), 3) := by decide +kernel
theorem d_Md_areParameters_35 : decode k_Md_areParameters 35 = .ok (.aload_n 0, 1) := by decide +kernel
theorem d_Md_areParameters_36 : decode k_Md_areParameters 36 = .ok (.iload_n 3, 1) := by decide +kernel
theorem d_Md_areParameters_37 : decode k_Md_areParameters 37 = .ok (.invokevirtual 187, 3) := by decide +kernel
theorem d_Md_areParameters_40 : decode k_Md_areParameters 40 = .ok (.ifCond .eq (21), 3) := by decide +kernel
theorem d_Md_areParameters_43 : decode k_Md_areParameters 43 = .ok (.aload_n 0, 1) := by decide +kernel
theorem d_Md_areParameters_44 : decode k_Md_areParameters 44 = .ok (.iload_n 3, 1) := by decide +kernel
theorem d_Md_areParameters_45 : decode k_Md_areParameters 45 = .ok (.invokevirtual 193, 3) := by decide +kernel
theorem d_Md_areParameters_48 : decode k_Md_areParameters 48 = .ok (.invokestatic 205, 3) := by decide +kernel
theorem d_Md_areParameters_51 : decode k_Md_areParameters 51 = .ok (.istore_n 2, 1) := by decide +kernel
theorem d_Md_areParameters_52 : decode k_Md_areParameters 52 = .ok (.aload_n 0, 1) := by decide +kernel
theorem d_Md_areParameters_53 : decode k_Md_areParameters 53 = .ok (.iload_n 3, 1) := by decide +kernel
theorem d_Md_areParameters_54 : decode k_Md_areParameters 54 = .ok (.invokevirtual 190, 3) := by decide +kernel
theorem d_Md_areParameters_57 : decode k_Md_areParameters 57 = .ok (.istore_n 3, 1) := by decide +kernel
theorem d_Md_areParameters_58 : decode k_Md_areParameters 58 = .ok (.goto (-27), 3) := by decide +kernel
theorem d_Md_areParameters_61 : decode k_Md_areParameters 61 = .ok (.iload_n 2, 1) := by decide +kernel
theorem d_Md_areParameters_62 : decode k_Md_areParameters 62 = .ok (.ireturn, 1) := by decide +kernel
theorem d_Md_special_0 : decode k_Md_special 0 = .ok (.aload_n 0, 1) := by decide +kernel
theorem d_Md_special_1 : decode k_Md_special 1 = .ok (.aload_n 0, 1) := by decide +kernel
theorem d_Md_special_2 : decode k_Md_special 2 = .ok (.getfield 46, 3) := by decide +kernel
theorem d_Md_special_5 : decode k_Md_special 5 = .ok (.invokevirtual 190, 3) := by decide +kernel
theorem d_Md_special_8 : decode k_Md_special 8 = .ok (.istore_n 2, 1) := by decide +kernel
theorem d_Md_special_9 : decode k_Md_special 9 = .ok (.aload_n 0, 1) := by decide +kernel
theorem d_Md_special_10 : decode k_Md_special 10 = .ok (.iload_n 2, 1) := by decide +kernel
theorem d_Md_special_11 : decode k_Md_special 11 = .ok (.invokevirtual 202, 3) := by decide +kernel
theorem d_Md_special_14 : decode k_Md_special 14 = .ok (.istore_n 3, 1) := by decide +kernel
theorem d_Md_special_15 : decode k_Md_special 15 = .ok (.iload_n 1, 1) := by decide +kernel
theorem d_Md_special_16 : decode k_Md_special 16 = .ok (.bipush 10, 2) := by decide +kernel
theorem d_Md_special_18 : decode k_Md_special 18 = .ok (.if_icmp .ne (16), 3) := by decide +kernel
theorem d_Md_special_21 : decode k_Md_special 21 = .ok (.iload_n 3, 1) := by decide +kernel
theorem d_Md_special_22 : decode k_Md_special 22 = .ok (.iconst 1, 1) := by decide +kernel
theorem d_Md_special_23 : decode k_Md_special 23 = .ok (.if_icmp .ne (7), 3) := by decide +kernel
theorem d_Md_special_26 : decode k_Md_special 26 = .ok (.iconst 1, 1) := by decide +kernel
theorem d_Md_special_27 : decode k_Md_special 27 = .ok (.goto (73), 3) := by decide +kernel
theorem d_Md_special_30 : decode k_Md_special 30 = .ok (.iconst 0, 1) := by decide +kernel
theorem d_Md_special_31 : decode k_Md_special 31 = .ok (.goto (69), 3) := by decide +kernel
theorem d_Md_special_34 : decode k_Md_special 34 = .ok (.iload_n 1, 1) := by decide +kernel
theorem d_Md_special_35 : decode k_Md_special 35 = .ok (.bipush 11, 2) := by decide +kernel
theorem d_Md_special_37 : decode k_Md_special 37 = .ok (.if_icmp .ne (21), 3) := by decide +kernel
theorem d_Md_special_40 : decode k_Md_special 40 = .ok (.iload_n 3, 1) := by decide +kernel
theorem d_Md_special_41 : decode k_Md_special 41 = .ok (.iconst 2, 1) := by decide +kernel
theorem d_Md_special_42 : decode k_Md_special 42 = .ok (.if_icmp .eq (8), 3) := by decide +kernel
theorem d_Md_special_45 : decode k_Md_special 45 = .ok (.iload_n 3, 1) := by decide +kernel
theorem d_Md_special_46 : decode k_Md_special 46 = .ok (.iconst 3, 1) := by decide +kernel
theorem d_Md_special_47 : decode k_Md_special 47 = .ok (.if_icmp .ne (7), 3) := by decide +kernel
theorem d_Md_special_50 : decode k_Md_special 50 = .ok (.iconst 1, 1) := by decide +kernel
theorem d_Md_special_51 : decode k_Md_special 51 = .ok (.goto (49), 3) := by decide +kernel
theorem d_Md_special_54 : decode k_Md_special 54 = .ok (.iconst 0, 1) := by decide +kernel
theorem d_Md_special_55 : decode k_Md_special 55 = .ok (.goto (45), 3) := by decide +kernel
theorem d_Md_special_58 : decode k_Md_special 58 = .ok (.iload_n 3, 1) := by decide +kernel
theorem d_Md_special_59 : decode k_Md_special 59 = .ok (.iconst 2, 1) := by decide +kernel
theorem d_Md_special_60 : decode k_Md_special 60 = .ok (.if_icmp .ne (39), 3) := by decide +kernel
theorem d_Md_special_63 : decode k_Md_special 63 = .ok (.iload_n 1, 1) := by decide +kernel
theorem d_Md_special_64 : decode k_Md_special 64 = .ok (.bipush 12, 2) := by decide +kernel
theorem d_Md_special_66 : decode k_Md_special 66 = .ok (.if_icmp .ne (18), 3) := by decide +kernel
theorem d_Md_special_69 : decode k_Md_special 69 = .ok (.aload_n 0, 1) := by decide +kernel
theorem d_Md_special_70 : decode k_Md_special 70 = .ok (.aload_n 0, 1) := by decide +kernel
theorem d_Md_special_71 : decode k_Md_special 71 = .ok (.iload_n 2, 1) := by decide +kernel
theorem d_Md_special_72 : decode k_Md_special 72 = .ok (.invokevirtual 193, 3) := by decide +kernel
theorem d_Md_special_75 : decode k_Md_special 75 = .ok (.invokevirtual 208, 3) := by decide +kernel
theorem d_Md_special_78 : decode k_Md_special 78 = .ok (.ifCond .eq (21), 3) := by decide +kernel
theorem d_Md_special_81 : decode k_Md_special 81 = .ok (.goto (14), 3) := by decide +kernel
theorem d_Md_special_84 : decode k_Md_special 84 = .ok (.aload_n 0, 1) := by decide +kernel
theorem d_Md_special_85 : decode k_Md_special 85 = .ok (.iload_n 2, 1) := by decide +kernel
theorem d_Md_special_86 : decode k_Md_special 86 = .ok (.invokevirtual 193, 3) := by decide +kernel
theorem d_Md_special_89 : decode k_Md_special 89 = .ok (.invokestatic 205, 3) := by decide +kernel
theorem d_Md_special_92 : decode k_Md_special 92 = .ok (.ifCond .eq (7), 3) := by decide +kernel
theorem d_Md_special_95 : decode k_Md_special 95 = .ok (.iconst 1, 1) := by decide +kernel
theorem d_Md_special_96 : decode k_Md_special 96 = .ok (.goto (4), 3) := by decide +kernel
theorem d_Md_special_99 : decode k_Md_special 99 = .ok (.iconst 0, 1) := by decide +kernel
theorem d_Md_special_100 : decode k_Md_special 100 = .ok (.istore 4, 2) := by decide +kernel
theorem d_Md_special_102 : decode k_Md_special 102 = .ok (.iload 4, 2) := by decide +kernel
theorem d_Md_special_104 : decode k_Md_special 104 = .ok (.ifCond .ne (6), 3) := by decide +kernel
theorem d_Md_special_107 : decode k_Md_special 107 = .ok (.bipush (-3), 2) := by decide +kernel
theorem d_Md_special_109 : decode k_Md_special 109 = .ok (.ireturn, 1) := by decide +kernel
theorem d_Md_special_110 : decode k_Md_special 110 = .ok (.iload_n 1, 1) := by decide +kernel
theorem d_Md_special_111 : decode k_Md_special 111 = .ok (.bipush 10, 2) := by decide +kernel
theorem d_Md_special_113 : decode k_Md_special 113 = .ok (.if_icmp .ne (13), 3) := by decide +kernel
theorem d_Md_special_116 : decode k_Md_special 116 = .ok (.aload_n 0, 1) := by decide +kernel
theorem d_Md_special_117 : decode k_Md_special 117 = .ok (.aload_n 0, 1) := by decide +kernel
theorem d_Md_special_118 : decode k_Md_special 118 = .ok (.iload_n 2, 1) := by decide +kernel
theorem d_Md_special_119 : decode k_Md_special 119 = .ok (.invokevirtual 193, 3) := by decide +kernel
theorem d_Md_special_122 : decode k_Md_special 122 = .ok (.invokevirtual 199, 3) := by decide +kernel
theorem d_Md_special_125 : decode k_Md_special 125 = .ok (.ireturn, 1) := by decide +kernel
theorem d_Md_special_126 : decode k_Md_special 126 = .ok (.iload_n 1, 1) := by decide +kernel
theorem d_Md_special_127 : decode k_Md_special 127 = .ok (.bipush 12, 2) := by decide +kernel
theorem d_Md_special_129 : decode k_Md_special 129 = .ok (.if_icmp .ne (41), 3) := by decide +kernel
theorem d_Md_special_132 : decode k_Md_special 132 = .ok (.aload_n 0, 1) := by decide +kernel
theorem d_Md_special_133 : decode k_Md_special 133 = .ok (.iconst 3, 1) := by decide +kernel
theorem d_Md_special_134 : decode k_Md_special 134 = .ok (.invokevirtual 171, 3) := by decide +kernel
theorem d_Md_special_137 : decode k_Md_special 137 = .ok (.ifCond .eq (30), 3) := by decide +kernel
theorem d_Md_special_140 : decode k_Md_special 140 = .ok (.aload_n 0, 1) := by decide +kernel
theorem d_Md_special_141 : decode k_Md_special 141 = .ok (.aload_n 0, 1) := by decide +kernel
theorem d_Md_special_142 : decode k_Md_special 142 = .ok (.iconst 3, 1) := by decide +kernel
theorem d_Md_special_143 : decode k_Md_special 143 = .ok (.aload_n 0, 1) := by decide +kernel
theorem d_Md_special_144 : decode k_Md_special 144 = .ok (.iload_n 2, 1) := by decide +kernel
theorem d_Md_special_145 : decode k_Md_special 145 = .ok (.invokevirtual 193, 3) := by decide +kernel
theorem d_Md_special_148 : decode k_Md_special 148 = .ok (.aload_n 0, 1) := by decide +kernel
theorem d_Md_special_149 : decode k_Md_special 149 = .ok (.iload_n 2, 1) := by decide +kernel
theorem d_Md_special_150 : decode k_Md_special 150 = .ok (.iconst 1, 1) := by decide +kernel
theorem d_Md_special_151 : decode k_Md_special 151 = .ok (.invokevirtual 211, 3) := by decide +kernel
theorem d_Md_special_154 : decode k_Md_special 154 = .ok (.aload_n 0, 1) := by decide +kernel
theorem d_Md_special_155 : decode k_Md_special 155 = .ok (.getfield 50, 3) := by decide +kernel
theorem d_Md_special_158 : decode k_Md_special 158 = .ok (.invokevirtual 107, 3) := by decide +kernel
theorem d_Md_special_161 : decode k_Md_special 161 = .ok (.invokevirtual 199, 3) := by decide +kernel
theorem d_Md_special_164 : decode k_Md_special 164 = .ok (.goto (5), 3) := by decide +kernel
theorem d_Md_special_167 : decode k_Md_special 167 = .ok (.bipush (-7), 2) := by decide +kernel
theorem d_Md_special_169 : decode k_Md_special 169 = .ok (.ireturn, 1) := by decide +kernel
theorem d_Md_special_170 : decode k_Md_special 170 = .ok (.iload_n 1, 1) := by decide +kernel
theorem d_Md_special_171 : decode k_Md_special 171 = .ok (.bipush 11, 2) := by decide +kernel
theorem d_Md_special_173 : decode k_Md_special 173 = .ok (.if_icmp .ne (20), 3) := by decide +kernel
theorem d_Md_special_176 : decode k_Md_special 176 = .ok (.aload_n 0, 1) := by decide +kernel
theorem d_Md_special_177 : decode k_Md_special 177 = .ok (.iconst 1, 1) := by decide +kernel
theorem d_Md_special_178 : decode k_Md_special 178 = .ok (.aload_n 0, 1) := by decide +kernel
theorem d_Md_special_179 : decode k_Md_special 179 = .ok (.iload_n 2, 1) := by decide +kernel
theorem d_Md_special_180 : decode k_Md_special 180 = .ok (.invokevirtual 190, 3) := by decide +kernel
theorem d_Md_special_183 : decode k_Md_special 183 = .ok (.aload_n 0, 1) := by decide +kernel
theorem d_Md_special_184 : decode k_Md_special 184 = .ok (.getfield 50, 3) := by decide +kernel
theorem d_Md_special_187 : decode k_Md_special 187 = .ok (.invokevirtual 214, 3) := by decide +kernel
theorem d_Md_special_190 : decode k_Md_special 190 = .ok (.goto (38), 3) := by decide +kernel
theorem d_Md_special_193 : decode k_Md_special 193 = .ok (.iload_n 1, 1) := by decide +kernel
theorem d_Md_special_194 : decode k_Md_special 194 = .ok (.bipush 13, 2) := by decide +kernel
theorem d_Md_special_196 : decode k_Md_special 196 = .ok (.if_icmp .ne (18), 3) := by decide +kernel
theorem d_Md_special_199 : decode k_Md_special 199 = .ok (.aload_n 0, 1) := by decide +kernel
theorem d_Md_special_200 : decode k_Md_special 200 = .ok (.iconst 2, 1) := by decide +kernel
theorem d_Md_special_201 : decode k_Md_special 201 = .ok (.aload_n 0, 1) := by decide +kernel
theorem d_Md_special_202 : decode k_Md_special 202 = .ok (.iload_n 2, 1) := by decide +kernel
theorem d_Md_special_203 : decode k_Md_special 203 = .ok (.invokevirtual 193, 3) := by decide +kernel
theorem d_Md_special_206 : decode k_Md_special 206 = .ok (.ldc 45, 2) := by decide +kernel
theorem d_Md_special_208 : decode k_Md_special 208 = .ok (.invokevirtual 214, 3) := by decide +kernel
theorem d_Md_special_211 : decode k_Md_special 211 = .ok (.goto (17), 3) := by decide +kernel
theorem d_Md_special_214 : decode k_Md_special 214 = .ok (.aload_n 0, 1) := by decide +kernel
theorem d_Md_special_215 : decode k_Md_special 215 = .ok (.iconst 3, 1) := by decide +kernel
theorem d_Md_special_216 : decode k_Md_special 216 = .ok (.aload_n 0, 1) := by decide +kernel
theorem d_Md_special_217 : decode k_Md_special 217 = .ok (.iload_n 2, 1) := by decide +kernel
theorem d_Md_special_218 : decode k_Md_special 218 = .ok (.invokevirtual 193, 3) := by decide +kernel
theorem d_Md_special_221 : decode k_Md_special 221 = .ok (.aload_n 0, 1) := by decide +kernel
theorem d_Md_special_222 : decode k_Md_special 222 = .ok (.getfield 50, 3) := by decide +kernel
theorem d_Md_special_225 : decode k_Md_special 225 = .ok (.invokevirtual 214, 3) := by decide +kernel
theorem d_Md_special_228 : decode k_Md_special 228 = .ok (.istore 5, 2) := by decide +kernel
theorem d_Md_special_230 : decode k_Md_special 230 = .ok (.iload 5, 2) := by decide +kernel
theorem d_Md_special_232 : decode k_Md_special 232 = .ok (.bipush (-6), 2) := by decide +kernel
theorem d_Md_special_234 : decode k_Md_special 234 = .ok (.if_icmp .ne (8), 3) := by decide +kernel
theorem d_Md_special_237 : decode k_Md_special 237 = .ok (.bipush (-6), 2) := by decide +kernel
theorem d_Md_special_239 : decode k_Md_special 239 = .ok (.goto (31), 3) := by decide +kernel
theorem d_Md_special_242 : decode k_Md_special 242 = .ok (.aload_n 0, 1) := by decide +kernel
theorem d_Md_special_243 : decode k_Md_special 243 = .ok (.iload_n 1, 1) := by decide +kernel
theorem d_Md_special_244 : decode k_Md_special 244 = .ok (.bipush 11, 2) := by decide +kernel
theorem d_Md_special_246 : decode k_Md_special 246 = .ok (.if_icmp .ne (11), 3) := by decide +kernel
theorem d_Md_special_249 : decode k_Md_special 249 = .ok (.aload_n 0, 1) := by decide +kernel
theorem d_Md_special_250 : decode k_Md_special 250 = .ok (.iload_n 2, 1) := by decide +kernel
theorem d_Md_special_251 : decode k_Md_special 251 = .ok (.invokevirtual 193, 3) := by decide +kernel
theorem d_Md_special_254 : decode k_Md_special 254 = .ok (.goto (9), 3) := by decide +kernel
theorem d_Md_special_257 : decode k_Md_special 257 = .ok (.aload_n 0, 1) := by decide +kernel
theorem d_Md_special_258 : decode k_Md_special 258 = .ok (.iload_n 2, 1) := by decide +kernel
theorem d_Md_special_259 : decode k_Md_special 259 = .ok (.iconst 1, 1) := by decide +kernel
theorem d_Md_special_260 : decode k_Md_special 260 = .ok (.invokevirtual 211, 3) := by decide +kernel
theorem d_Md_special_263 : decode k_Md_special 263 = .ok (.aload_n 0, 1) := by decide +kernel
theorem d_Md_special_264 : decode k_Md_special 264 = .ok (.getfield 50, 3) := by decide +kernel
theorem d_Md_special_267 : decode k_Md_special 267 = .ok (.invokevirtual 218, 3) := by decide +kernel
theorem d_Md_special_270 : decode k_Md_special 270 = .ok (.ireturn, 1) := by decide +kernel
theorem d_Md_evaluate_0 : decode k_Md_evaluate 0 = .ok (.aload_n 0, 1) := by decide +kernel
theorem d_Md_evaluate_1 : decode k_Md_evaluate 1 = .ok (.getfield 46, 3) := by decide +kernel
theorem d_Md_evaluate_4 : decode k_Md_evaluate 4 = .ok (.invokestatic 205, 3) := by decide +kernel
theorem d_Md_evaluate_7 : decode k_Md_evaluate 7 = .ok (.ifCond .eq (8), 3) := by decide +kernel
theorem d_Md_evaluate_10 : decode k_Md_evaluate 10 = .ok (.aload_n 0, 1) := by decide +kernel
theorem d_Md_evaluate_11 : decode k_Md_evaluate 11 = .ok (.invokevirtual 221, 3) := by decide +kernel
theorem d_Md_evaluate_14 : decode k_Md_evaluate 14 = .ok (.ireturn, 1) := by decide +kernel
theorem d_Md_evaluate_15 : decode k_Md_evaluate 15 = .ok (.aload_n 0, 1) := by decide +kernel
theorem d_Md_evaluate_16 : decode k_Md_evaluate 16 = .ok (.aload_n 0, 1) := by decide +kernel
theorem d_Md_evaluate_17 : decode k_Md_evaluate 17 = .ok (.getfield 46, 3) := by decide +kernel
theorem d_Md_evaluate_20 : decode k_Md_evaluate 20 = .ok (.invokevirtual 187, 3) := by decide +kernel
theorem d_Md_evaluate_23 : decode k_Md_evaluate 23 = .ok (.ifCond .ne (12), 3) := by decide +kernel
theorem d_Md_evaluate_26 : decode k_Md_evaluate 26 = .ok (.aload_n 0, 1) := by decide +kernel
theorem d_Md_evaluate_27 : decode k_Md_evaluate 27 = .ok (.aload_n 0, 1) := by decide +kernel
theorem d_Md_evaluate_28 : decode k_Md_evaluate 28 = .ok (.getfield 46, 3) := by decide +kernel
theorem d_Md_evaluate_31 : decode k_Md_evaluate 31 = .ok (.invokevirtual 199, 3) := by decide +kernel
theorem d_Md_evaluate_34 : decode k_Md_evaluate 34 = .ok (.ireturn, 1) := by decide +kernel
theorem d_Md_evaluate_35 : decode k_Md_evaluate 35 = .ok (.aload_n 0, 1) := by decide +kernel
theorem d_Md_evaluate_36 : decode k_Md_evaluate 36 = .ok (.aload_n 0, 1) := by decide +kernel
theorem d_Md_evaluate_37 : decode k_Md_evaluate 37 = .ok (.getfield 46, 3) := by decide +kernel
theorem d_Md_evaluate_40 : decode k_Md_evaluate 40 = .ok (.invokevirtual 193, 3) := by decide +kernel
theorem d_Md_evaluate_43 : decode k_Md_evaluate 43 = .ok (.istore_n 1, 1) := by decide +kernel
theorem d_Md_evaluate_44 : decode k_Md_evaluate 44 = .ok (.iload_n 1, 1) := by decide +kernel
theorem d_Md_evaluate_45 : decode k_Md_evaluate 45 = .ok (.ldc 151, 2) := by decide +kernel
theorem d_Md_evaluate_47 : decode k_Md_evaluate 47 = .ok (.if_icmp .lt (18), 3) := by decide +kernel
theorem d_Md_evaluate_50 : decode k_Md_evaluate 50 = .ok (.iload_n 1, 1) := by decide +kernel
theorem d_Md_evaluate_51 : decode k_Md_evaluate 51 = .ok (.ldc 83, 2) := by decide +kernel
theorem d_Md_evaluate_53 : decode k_Md_evaluate 53 = .ok (.if_icmp .ge (12), 3) := by decide +kernel
theorem d_Md_evaluate_56 : decode k_Md_evaluate 56 = .ok (.aload_n 0, 1) := by decide +kernel
theorem d_Md_evaluate_57 : decode k_Md_evaluate 57 = .ok (.iload_n 1, 1) := by decide +kernel
theorem d_Md_evaluate_58 : decode k_Md_evaluate 58 = .ok (.ldc 90, 2) := by decide +kernel
theorem d_Md_evaluate_60 : decode k_Md_evaluate 60 = .ok (.isub, 1) := by decide +kernel
theorem d_Md_evaluate_61 : decode k_Md_evaluate 61 = .ok (.invokevirtual 224, 3) := by decide +kernel
theorem d_Md_evaluate_64 : decode k_Md_evaluate 64 = .ok (.ireturn, 1) := by decide +kernel
theorem d_Md_evaluate_65 : decode k_Md_evaluate 65 = .ok (.aload_n 0, 1) := by decide +kernel
theorem d_Md_evaluate_66 : decode k_Md_evaluate 66 = .ok (.iconst 4, 1) := by decide +kernel
theorem d_Md_evaluate_67 : decode k_Md_evaluate 67 = .ok (.aload_n 0, 1) := by decide +kernel
theorem d_Md_evaluate_68 : decode k_Md_evaluate 68 = .ok (.aload_n 0, 1) := by decide +kernel
theorem d_Md_evaluate_69 : decode k_Md_evaluate 69 = .ok (.getfield 46, 3) := by decide +kernel
theorem d_Md_evaluate_72 : decode k_Md_evaluate 72 = .ok (.invokevirtual 190, 3) := by decide +kernel
theorem d_Md_evaluate_75 : decode k_Md_evaluate 75 = .ok (.aload_n 0, 1) := by decide +kernel
theorem d_Md_evaluate_76 : decode k_Md_evaluate 76 = .ok (.getfield 50, 3) := by decide +kernel
theorem d_Md_evaluate_79 : decode k_Md_evaluate 79 = .ok (.invokevirtual 214, 3) := by decide +kernel
theorem d_Md_evaluate_82 : decode k_Md_evaluate 82 = .ok (.bipush (-6), 2) := by decide +kernel
theorem d_Md_evaluate_84 : decode k_Md_evaluate 84 = .ok (.if_icmp .ne (8), 3) := by decide +kernel
theorem d_Md_evaluate_87 : decode k_Md_evaluate 87 = .ok (.bipush (-6), 2) := by decide +kernel
theorem d_Md_evaluate_89 : decode k_Md_evaluate 89 = .ok (.goto (12), 3) := by decide +kernel
theorem d_Md_evaluate_92 : decode k_Md_evaluate 92 = .ok (.aload_n 0, 1) := by decide +kernel
theorem d_Md_evaluate_93 : decode k_Md_evaluate 93 = .ok (.iload_n 1, 1) := by decide +kernel
theorem d_Md_evaluate_94 : decode k_Md_evaluate 94 = .ok (.aload_n 0, 1) := by decide +kernel
theorem d_Md_evaluate_95 : decode k_Md_evaluate 95 = .ok (.getfield 50, 3) := by decide +kernel
theorem d_Md_evaluate_98 : decode k_Md_evaluate 98 = .ok (.invokevirtual 218, 3) := by decide +kernel
theorem d_Md_evaluate_101 : decode k_Md_evaluate 101 = .ok (.ireturn, 1) := by decide +kernel
theorem d_Md_back_0 : decode k_Md_back 0 = .ok (.aload_n 0, 1) := by decide +kernel
theorem d_Md_back_1 : decode k_Md_back 1 = .ok (.getfield 100, 3) := by decide +kernel
theorem d_Md_back_4 : decode k_Md_back 4 = .ok (.ifCond .ne (18), 3) := by decide +kernel
theorem d_Md_back_7 : decode k_Md_back 7 = .ok (.aload_n 0, 1) := by decide +kernel
theorem d_Md_back_8 : decode k_Md_back 8 = .ok (.invokevirtual 227, 3) := by decide +kernel
theorem d_Md_back_11 : decode k_Md_back 11 = .ok (.aload_n 0, 1) := by decide +kernel
theorem d_Md_back_12 : decode k_Md_back 12 = .ok (.iconst 0, 1) := by decide +kernel
theorem d_Md_back_13 : decode k_Md_back 13 = .ok (.putfield 180, 3) := by decide +kernel
theorem d_Md_back_16 : decode k_Md_back 16 = .ok (.aload_n 0, 1) := by decide +kernel
theorem d_Md_back_17 : decode k_Md_back 17 = .ok (.invokevirtual 230, 3) := by decide +kernel
theorem d_Md_back_20 : decode k_Md_back 20 = .ok (.iconst 0, 1) := by decide +kernel
theorem d_Md_back_21 : decode k_Md_back 21 = .ok (.ireturn, 1) := by decide +kernel
theorem d_Md_back_22 : decode k_Md_back 22 = .ok (.aload_n 0, 1) := by decide +kernel
theorem d_Md_back_23 : decode k_Md_back 23 = .ok (.getfield 100, 3) := by decide +kernel
theorem d_Md_back_26 : decode k_Md_back 26 = .ok (.iconst 1, 1) := by decide +kernel
theorem d_Md_back_27 : decode k_Md_back 27 = .ok (.isub, 1) := by decide +kernel
theorem d_Md_back_28 : decode k_Md_back 28 = .ok (.istore_n 1, 1) := by decide +kernel
theorem d_Md_back_29 : decode k_Md_back 29 = .ok (.aload_n 0, 1) := by decide +kernel
theorem d_Md_back_30 : decode k_Md_back 30 = .ok (.getfield 26, 3) := by decide +kernel
theorem d_Md_back_33 : decode k_Md_back 33 = .ok (.iload_n 1, 1) := by decide +kernel
theorem d_Md_back_34 : decode k_Md_back 34 = .ok (.iaload, 1) := by decide +kernel
theorem d_Md_back_35 : decode k_Md_back 35 = .ok (.iconst 4, 1) := by decide +kernel
theorem d_Md_back_36 : decode k_Md_back 36 = .ok (.if_icmp .ne (9), 3) := by decide +kernel
theorem d_Md_back_39 : decode k_Md_back 39 = .ok (.aload_n 0, 1) := by decide +kernel
theorem d_Md_back_40 : decode k_Md_back 40 = .ok (.iload_n 1, 1) := by decide +kernel
theorem d_Md_back_41 : decode k_Md_back 41 = .ok (.invokevirtual 233, 3) := by decide +kernel
theorem d_Md_back_44 : decode k_Md_back 44 = .ok (.ireturn, 1) := by decide +kernel
theorem d_Md_back_45 : decode k_Md_back 45 = .ok (.aload_n 0, 1) := by decide +kernel
theorem d_Md_back_46 : decode k_Md_back 46 = .ok (.iload_n 1, 1) := by decide +kernel
theorem d_Md_back_47 : decode k_Md_back 47 = .ok (.putfield 100, 3) := by decide +kernel
theorem d_Md_back_50 : decode k_Md_back 50 = .ok (.aload_n 0, 1) := by decide +kernel
theorem d_Md_back_51 : decode k_Md_back 51 = .ok (.getfield 29, 3) := by decide +kernel
theorem d_Md_back_54 : decode k_Md_back 54 = .ok (.iload_n 1, 1) := by decide +kernel
theorem d_Md_back_55 : decode k_Md_back 55 = .ok (.iaload, 1) := by decide +kernel
theorem d_Md_back_56 : decode k_Md_back 56 = .ok (.istore_n 2, 1) := by decide +kernel
theorem d_Md_back_57 : decode k_Md_back 57 = .ok (.aload_n 0, 1) := by decide +kernel
theorem d_Md_back_58 : decode k_Md_back 58 = .ok (.getfield 32, 3) := by decide +kernel
theorem d_Md_back_61 : decode k_Md_back 61 = .ok (.iload_n 1, 1) := by decide +kernel
theorem d_Md_back_62 : decode k_Md_back 62 = .ok (.iaload, 1) := by decide +kernel
theorem d_Md_back_63 : decode k_Md_back 63 = .ok (.istore_n 3, 1) := by decide +kernel
theorem d_Md_back_64 : decode k_Md_back 64 = .ok (.aload_n 0, 1) := by decide +kernel
theorem d_Md_back_65 : decode k_Md_back 65 = .ok (.getfield 26, 3) := by decide +kernel
theorem d_Md_back_68 : decode k_Md_back 68 = .ok (.iload_n 1, 1) := by decide +kernel
theorem d_Md_back_69 : decode k_Md_back 69 = .ok (.iaload, 1) := by decide +kernel
theorem d_Md_back_70 : decode k_Md_back 70 = .ok (.iconst 1, 1) := by decide +kernel
theorem d_Md_back_71 : decode k_Md_back 71 = .ok (.if_icmp .ne (54), 3) := by decide +kernel
theorem d_Md_back_74 : decode k_Md_back 74 = .ok (.aload_n 0, 1) := by decide +kernel
theorem d_Md_back_75 : decode k_Md_back 75 = .ok (.getfield 46, 3) := by decide +kernel
theorem d_Md_back_78 : decode k_Md_back 78 = .ok (.ldc 45, 2) := by decide +kernel
theorem d_Md_back_80 : decode k_Md_back 80 = .ok (.if_icmp .eq (14), 3) := by decide +kernel
theorem d_Md_back_83 : decode k_Md_back 83 = .ok (.aload_n 0, 1) := by decide +kernel
theorem d_Md_back_84 : decode k_Md_back 84 = .ok (.aload_n 0, 1) := by decide +kernel
theorem d_Md_back_85 : decode k_Md_back 85 = .ok (.iload_n 2, 1) := by decide +kernel
theorem d_Md_back_86 : decode k_Md_back 86 = .ok (.invokevirtual 193, 3) := by decide +kernel
theorem d_Md_back_89 : decode k_Md_back 89 = .ok (.iload_n 3, 1) := by decide +kernel
theorem d_Md_back_90 : decode k_Md_back 90 = .ok (.invokevirtual 218, 3) := by decide +kernel
theorem d_Md_back_93 : decode k_Md_back 93 = .ok (.ireturn, 1) := by decide +kernel
theorem d_Md_back_94 : decode k_Md_back 94 = .ok (.aload_n 0, 1) := by decide +kernel
theorem d_Md_back_95 : decode k_Md_back 95 = .ok (.iload_n 2, 1) := by decide +kernel
theorem d_Md_back_96 : decode k_Md_back 96 = .ok (.invokevirtual 190, 3) := by decide +kernel
theorem d_Md_back_99 : decode k_Md_back 99 = .ok (.ldc 45, 2) := by decide +kernel
theorem d_Md_back_101 : decode k_Md_back 101 = .ok (.if_icmp .ne (12), 3) := by decide +kernel
theorem d_Md_back_104 : decode k_Md_back 104 = .ok (.aload_n 0, 1) := by decide +kernel
theorem d_Md_back_105 : decode k_Md_back 105 = .ok (.ldc 45, 2) := by decide +kernel
theorem d_Md_back_107 : decode k_Md_back 107 = .ok (.invokevirtual 199, 3) := by decide +kernel
theorem d_Md_back_110 : decode k_Md_back 110 = .ok (.goto (14), 3) := by decide +kernel
theorem d_Md_back_113 : decode k_Md_back 113 = .ok (.aload_n 0, 1) := by decide +kernel
theorem d_Md_back_114 : decode k_Md_back 114 = .ok (.aload_n 0, 1) := by decide +kernel
theorem d_Md_back_115 : decode k_Md_back 115 = .ok (.iload_n 2, 1) := by decide +kernel
theorem d_Md_back_116 : decode k_Md_back 116 = .ok (.iconst 1, 1) := by decide +kernel
theorem d_Md_back_117 : decode k_Md_back 117 = .ok (.invokevirtual 211, 3) := by decide +kernel
theorem d_Md_back_120 : decode k_Md_back 120 = .ok (.iload_n 3, 1) := by decide +kernel
theorem d_Md_back_121 : decode k_Md_back 121 = .ok (.invokevirtual 218, 3) := by decide +kernel
theorem d_Md_back_124 : decode k_Md_back 124 = .ok (.ireturn, 1) := by decide +kernel
theorem d_Md_back_125 : decode k_Md_back 125 = .ok (.aload_n 0, 1) := by decide +kernel
theorem d_Md_back_126 : decode k_Md_back 126 = .ok (.getfield 26, 3) := by decide +kernel
theorem d_Md_back_129 : decode k_Md_back 129 = .ok (.iload_n 1, 1) := by decide +kernel
theorem d_Md_back_130 : decode k_Md_back 130 = .ok (.iaload, 1) := by decide +kernel
theorem d_Md_back_131 : decode k_Md_back 131 = .ok (.iconst 2, 1) := by decide +kernel
theorem d_Md_back_132 : decode k_Md_back 132 = .ok (.if_icmp .ne (22), 3) := by decide +kernel
theorem d_Md_back_135 : decode k_Md_back 135 = .ok (.aload_n 0, 1) := by decide +kernel
theorem d_Md_back_136 : decode k_Md_back 136 = .ok (.getfield 42, 3) := by decide +kernel
theorem d_Md_back_139 : decode k_Md_back 139 = .ok (.iload_n 2, 1) := by decide +kernel
theorem d_Md_back_140 : decode k_Md_back 140 = .ok (.ldc 90, 2) := by decide +kernel
theorem d_Md_back_142 : decode k_Md_back 142 = .ok (.isub, 1) := by decide +kernel
theorem d_Md_back_143 : decode k_Md_back 143 = .ok (.aload_n 0, 1) := by decide +kernel
theorem d_Md_back_144 : decode k_Md_back 144 = .ok (.getfield 46, 3) := by decide +kernel
theorem d_Md_back_147 : decode k_Md_back 147 = .ok (.iastore, 1) := by decide +kernel
theorem d_Md_back_148 : decode k_Md_back 148 = .ok (.aload_n 0, 1) := by decide +kernel
theorem d_Md_back_149 : decode k_Md_back 149 = .ok (.iload_n 2, 1) := by decide +kernel
theorem d_Md_back_150 : decode k_Md_back 150 = .ok (.invokevirtual 199, 3) := by decide +kernel
theorem d_Md_back_153 : decode k_Md_back 153 = .ok (.ireturn, 1) := by decide +kernel
theorem d_Md_back_154 : decode k_Md_back 154 = .ok (.aload_n 0, 1) := by decide +kernel
theorem d_Md_back_155 : decode k_Md_back 155 = .ok (.iload_n 2, 1) := by decide +kernel
theorem d_Md_back_156 : decode k_Md_back 156 = .ok (.iload_n 3, 1) := by decide +kernel
theorem d_Md_back_157 : decode k_Md_back 157 = .ok (.invokevirtual 196, 3) := by decide +kernel
theorem d_Md_back_160 : decode k_Md_back 160 = .ok (.istore 4, 2) := by decide +kernel
theorem d_Md_back_162 : decode k_Md_back 162 = .ok (.iload 4, 2) := by decide +kernel
theorem d_Md_back_164 : decode k_Md_back 164 = .ok (.ldc 45, 2) := by decide +kernel
theorem d_Md_back_166 : decode k_Md_back 166 = .ok (.if_icmp .ne (20), 3) := by decide +kernel
theorem d_Md_back_169 : decode k_Md_back 169 = .ok (.aload_n 0, 1) := by decide +kernel
theorem d_Md_back_170 : decode k_Md_back 170 = .ok (.getfield 42, 3) := by decide +kernel
theorem d_Md_back_173 : decode k_Md_back 173 = .ok (.iload_n 2, 1) := by decide +kernel
theorem d_Md_back_174 : decode k_Md_back 174 = .ok (.ldc 90, 2) := by decide +kernel
theorem d_Md_back_176 : decode k_Md_back 176 = .ok (.isub, 1) := by decide +kernel
theorem d_Md_back_177 : decode k_Md_back 177 = .ok (.iaload, 1) := by decide +kernel
theorem d_Md_back_178 : decode k_Md_back 178 = .ok (.ldc 78, 2) := by decide +kernel
theorem d_Md_back_180 : decode k_Md_back 180 = .ok (.if_icmp .ne (6), 3) := by decide +kernel
theorem d_Md_back_183 : decode k_Md_back 183 = .ok (.bipush (-2), 2) := by decide +kernel
theorem d_Md_back_185 : decode k_Md_back 185 = .ok (.ireturn, 1) := by decide +kernel
theorem d_Md_back_186 : decode k_Md_back 186 = .ok (.iload 4, 2) := by decide +kernel
theorem d_Md_back_188 : decode k_Md_back 188 = .ok (.ldc 45, 2) := by decide +kernel
theorem d_Md_back_190 : decode k_Md_back 190 = .ok (.if_icmp .ne (19), 3) := by decide +kernel
theorem d_Md_back_193 : decode k_Md_back 193 = .ok (.aload_n 0, 1) := by decide +kernel
theorem d_Md_back_194 : decode k_Md_back 194 = .ok (.getfield 42, 3) := by decide +kernel
theorem d_Md_back_197 : decode k_Md_back 197 = .ok (.iload_n 2, 1) := by decide +kernel
theorem d_Md_back_198 : decode k_Md_back 198 = .ok (.ldc 90, 2) := by decide +kernel
theorem d_Md_back_200 : decode k_Md_back 200 = .ok (.isub, 1) := by decide +kernel
theorem d_Md_back_201 : decode k_Md_back 201 = .ok (.aload_n 0, 1) := by decide +kernel
theorem d_Md_back_202 : decode k_Md_back 202 = .ok (.getfield 46, 3) := by decide +kernel
theorem d_Md_back_205 : decode k_Md_back 205 = .ok (.iastore, 1) := by decide +kernel
theorem d_Md_back_206 : decode k_Md_back 206 = .ok (.goto (17), 3) := by decide +kernel
theorem d_Md_back_209 : decode k_Md_back 209 = .ok (.aload_n 0, 1) := by decide +kernel
theorem d_Md_back_210 : decode k_Md_back 210 = .ok (.getfield 16, 3) := by decide +kernel
theorem d_Md_back_213 : decode k_Md_back 213 = .ok (.iload 4, 2) := by decide +kernel
theorem d_Md_back_215 : decode k_Md_back 215 = .ok (.ldc 91, 2) := by decide +kernel
theorem d_Md_back_217 : decode k_Md_back 217 = .ok (.isub, 1) := by decide +kernel
theorem d_Md_back_218 : decode k_Md_back 218 = .ok (.aload_n 0, 1) := by decide +kernel
theorem d_Md_back_219 : decode k_Md_back 219 = .ok (.getfield 46, 3) := by decide +kernel
theorem d_Md_back_222 : decode k_Md_back 222 = .ok (.iastore, 1) := by decide +kernel
theorem d_Md_back_223 : decode k_Md_back 223 = .ok (.aload_n 0, 1) := by decide +kernel
theorem d_Md_back_224 : decode k_Md_back 224 = .ok (.aload_n 0, 1) := by decide +kernel
theorem d_Md_back_225 : decode k_Md_back 225 = .ok (.getfield 46, 3) := by decide +kernel
theorem d_Md_back_228 : decode k_Md_back 228 = .ok (.invokevirtual 199, 3) := by decide +kernel
theorem d_Md_back_231 : decode k_Md_back 231 = .ok (.ireturn, 1) := by decide +kernel
theorem d_Md_argument_0 : decode k_Md_argument 0 = .ok (.aload_n 0, 1) := by decide +kernel
theorem d_Md_argument_1 : decode k_Md_argument 1 = .ok (.iconst 2, 1) := by decide +kernel
theorem d_Md_argument_2 : decode k_Md_argument 2 = .ok (.invokevirtual 171, 3) := by decide +kernel
theorem d_Md_argument_5 : decode k_Md_argument 5 = .ok (.ifCond .ne (6), 3) := by decide +kernel
theorem d_Md_argument_8 : decode k_Md_argument 8 = .ok (.bipush (-7), 2) := by decide +kernel
theorem d_Md_argument_10 : decode k_Md_argument 10 = .ok (.ireturn, 1) := by decide +kernel
theorem d_Md_argument_11 : decode k_Md_argument 11 = .ok (.aload_n 0, 1) := by decide +kernel
theorem d_Md_argument_12 : decode k_Md_argument 12 = .ok (.getfield 35, 3) := by decide +kernel
theorem d_Md_argument_15 : decode k_Md_argument 15 = .ok (.iload_n 1, 1) := by decide +kernel
theorem d_Md_argument_16 : decode k_Md_argument 16 = .ok (.aload_n 0, 1) := by decide +kernel
theorem d_Md_argument_17 : decode k_Md_argument 17 = .ok (.aload_n 0, 1) := by decide +kernel
theorem d_Md_argument_18 : decode k_Md_argument 18 = .ok (.getfield 46, 3) := by decide +kernel
theorem d_Md_argument_21 : decode k_Md_argument 21 = .ok (.aload_n 0, 1) := by decide +kernel
theorem d_Md_argument_22 : decode k_Md_argument 22 = .ok (.getfield 35, 3) := by decide +kernel
theorem d_Md_argument_25 : decode k_Md_argument 25 = .ok (.iload_n 1, 1) := by decide +kernel
theorem d_Md_argument_26 : decode k_Md_argument 26 = .ok (.iaload, 1) := by decide +kernel
theorem d_Md_argument_27 : decode k_Md_argument 27 = .ok (.invokevirtual 152, 3) := by decide +kernel
theorem d_Md_argument_30 : decode k_Md_argument 30 = .ok (.iastore, 1) := by decide +kernel
theorem d_Md_argument_31 : decode k_Md_argument 31 = .ok (.aload_n 0, 1) := by decide +kernel
theorem d_Md_argument_32 : decode k_Md_argument 32 = .ok (.getfield 29, 3) := by decide +kernel
theorem d_Md_argument_35 : decode k_Md_argument 35 = .ok (.iload_n 1, 1) := by decide +kernel
theorem d_Md_argument_36 : decode k_Md_argument 36 = .ok (.iaload, 1) := by decide +kernel
theorem d_Md_argument_37 : decode k_Md_argument 37 = .ok (.istore_n 2, 1) := by decide +kernel
theorem d_Md_argument_38 : decode k_Md_argument 38 = .ok (.iload_n 2, 1) := by decide +kernel
theorem d_Md_argument_39 : decode k_Md_argument 39 = .ok (.ldc 45, 2) := by decide +kernel
theorem d_Md_argument_41 : decode k_Md_argument 41 = .ok (.if_icmp .ne (14), 3) := by decide +kernel
theorem d_Md_argument_44 : decode k_Md_argument 44 = .ok (.aload_n 0, 1) := by decide +kernel
theorem d_Md_argument_45 : decode k_Md_argument 45 = .ok (.aload_n 0, 1) := by decide +kernel
theorem d_Md_argument_46 : decode k_Md_argument 46 = .ok (.getfield 35, 3) := by decide +kernel
theorem d_Md_argument_49 : decode k_Md_argument 49 = .ok (.iload_n 1, 1) := by decide +kernel
theorem d_Md_argument_50 : decode k_Md_argument 50 = .ok (.iaload, 1) := by decide +kernel
theorem d_Md_argument_51 : decode k_Md_argument 51 = .ok (.invokevirtual 236, 3) := by decide +kernel
theorem d_Md_argument_54 : decode k_Md_argument 54 = .ok (.ireturn, 1) := by decide +kernel
theorem d_Md_argument_55 : decode k_Md_argument 55 = .ok (.aload_n 0, 1) := by decide +kernel
theorem d_Md_argument_56 : decode k_Md_argument 56 = .ok (.getfield 29, 3) := by decide +kernel
theorem d_Md_argument_59 : decode k_Md_argument 59 = .ok (.iload_n 1, 1) := by decide +kernel
theorem d_Md_argument_60 : decode k_Md_argument 60 = .ok (.aload_n 0, 1) := by decide +kernel
theorem d_Md_argument_61 : decode k_Md_argument 61 = .ok (.iload_n 2, 1) := by decide +kernel
theorem d_Md_argument_62 : decode k_Md_argument 62 = .ok (.invokevirtual 190, 3) := by decide +kernel
theorem d_Md_argument_65 : decode k_Md_argument 65 = .ok (.iastore, 1) := by decide +kernel
theorem d_Md_argument_66 : decode k_Md_argument 66 = .ok (.aload_n 0, 1) := by decide +kernel
theorem d_Md_argument_67 : decode k_Md_argument 67 = .ok (.aload_n 0, 1) := by decide +kernel
theorem d_Md_argument_68 : decode k_Md_argument 68 = .ok (.iload_n 2, 1) := by decide +kernel
theorem d_Md_argument_69 : decode k_Md_argument 69 = .ok (.invokevirtual 193, 3) := by decide +kernel
theorem d_Md_argument_72 : decode k_Md_argument 72 = .ok (.aload_n 0, 1) := by decide +kernel
theorem d_Md_argument_73 : decode k_Md_argument 73 = .ok (.getfield 32, 3) := by decide +kernel
theorem d_Md_argument_76 : decode k_Md_argument 76 = .ok (.iload_n 1, 1) := by decide +kernel
theorem d_Md_argument_77 : decode k_Md_argument 77 = .ok (.iaload, 1) := by decide +kernel
theorem d_Md_argument_78 : decode k_Md_argument 78 = .ok (.invokevirtual 218, 3) := by decide +kernel
theorem d_Md_argument_81 : decode k_Md_argument 81 = .ok (.ireturn, 1) := by decide +kernel
theorem d_Md_done_0 : decode k_Md_done 0 = .ok (.aload_n 0, 1) := by decide +kernel
theorem d_Md_done_1 : decode k_Md_done 1 = .ok (.dup, 1) := by decide +kernel
theorem d_Md_done_2 : decode k_Md_done 2 = .ok (.getfield 100, 3) := by decide +kernel
theorem d_Md_done_5 : decode k_Md_done 5 = .ok (.iconst 1, 1) := by decide +kernel
theorem d_Md_done_6 : decode k_Md_done 6 = .ok (.isub, 1) := by decide +kernel
theorem d_Md_done_7 : decode k_Md_done 7 = .ok (.putfield 100, 3) := by decide +kernel
theorem d_Md_done_10 : decode k_Md_done 10 = .ok (.aload_n 0, 1) := by decide +kernel
theorem d_Md_done_11 : decode k_Md_done 11 = .ok (.iload_n 1, 1) := by decide +kernel
theorem d_Md_done_12 : decode k_Md_done 12 = .ok (.invokevirtual 199, 3) := by decide +kernel
theorem d_Md_done_15 : decode k_Md_done 15 = .ok (.ireturn, 1) := by decide +kernel
theorem d_Md_apply_0 : decode k_Md_apply 0 = .ok (.aload_n 0, 1) := by decide +kernel
theorem d_Md_apply_1 : decode k_Md_apply 1 = .ok (.iload_n 1, 1) := by decide +kernel
theorem d_Md_apply_2 : decode k_Md_apply 2 = .ok (.invokevirtual 202, 3) := by decide +kernel
theorem d_Md_apply_5 : decode k_Md_apply 5 = .ok (.iconst 1, 1) := by decide +kernel
theorem d_Md_apply_6 : decode k_Md_apply 6 = .ok (.isub, 1) := by decide +kernel
theorem d_Md_apply_7 : decode k_Md_apply 7 = .ok (.istore_n 2, 1) := by decide +kernel
theorem d_Md_apply_8 : decode k_Md_apply 8 = .ok (.aload_n 0, 1) := by decide +kernel
theorem d_Md_apply_9 : decode k_Md_apply 9 = .ok (.iload_n 1, 1) := by decide +kernel
theorem d_Md_apply_10 : decode k_Md_apply 10 = .ok (.iload_n 2, 1) := by decide +kernel
theorem d_Md_apply_11 : decode k_Md_apply 11 = .ok (.invokevirtual 211, 3) := by decide +kernel
theorem d_Md_apply_14 : decode k_Md_apply 14 = .ok (.istore_n 3, 1) := by decide +kernel
theorem d_Md_apply_15 : decode k_Md_apply 15 = .ok (.aload_n 0, 1) := by decide +kernel
theorem d_Md_apply_16 : decode k_Md_apply 16 = .ok (.iload_n 3, 1) := by decide +kernel
theorem d_Md_apply_17 : decode k_Md_apply 17 = .ok (.invokevirtual 239, 3) := by decide +kernel
theorem d_Md_apply_20 : decode k_Md_apply 20 = .ok (.ifCond .eq (11), 3) := by decide +kernel
theorem d_Md_apply_23 : decode k_Md_apply 23 = .ok (.aload_n 0, 1) := by decide +kernel
theorem d_Md_apply_24 : decode k_Md_apply 24 = .ok (.iload_n 1, 1) := by decide +kernel
theorem d_Md_apply_25 : decode k_Md_apply 25 = .ok (.iload_n 2, 1) := by decide +kernel
theorem d_Md_apply_26 : decode k_Md_apply 26 = .ok (.iload_n 3, 1) := by decide +kernel
theorem d_Md_apply_27 : decode k_Md_apply 27 = .ok (.invokevirtual 242, 3) := by decide +kernel
theorem d_Md_apply_30 : decode k_Md_apply 30 = .ok (.ireturn, 1) := by decide +kernel
theorem d_Md_apply_31 : decode k_Md_apply 31 = .ok (.iload_n 3, 1) := by decide +kernel
theorem d_Md_apply_32 : decode k_Md_apply 32 = .ok (.ldc 77, 2) := by decide +kernel
theorem d_Md_apply_34 : decode k_Md_apply 34 = .ok (.if_icmp .lt (10), 3) := by decide +kernel
theorem d_Md_apply_37 : decode k_Md_apply 37 = .ok (.iload_n 3, 1) := by decide +kernel
theorem d_Md_apply_38 : decode k_Md_apply 38 = .ok (.invokestatic 92, 3) := by decide +kernel
theorem d_Md_apply_41 : decode k_Md_apply 41 = .ok (.ifCond .eq (6), 3) := by decide +kernel
theorem d_Md_apply_44 : decode k_Md_apply 44 = .ok (.bipush (-5), 2) := by decide +kernel
theorem d_Md_apply_46 : decode k_Md_apply 46 = .ok (.ireturn, 1) := by decide +kernel
theorem d_Md_apply_47 : decode k_Md_apply 47 = .ok (.iload_n 3, 1) := by decide +kernel
theorem d_Md_apply_48 : decode k_Md_apply 48 = .ok (.ldc 77, 2) := by decide +kernel
theorem d_Md_apply_50 : decode k_Md_apply 50 = .ok (.isub, 1) := by decide +kernel
theorem d_Md_apply_51 : decode k_Md_apply 51 = .ok (.istore 4, 2) := by decide +kernel
theorem d_Md_apply_53 : decode k_Md_apply 53 = .ok (.iload 4, 2) := by decide +kernel
theorem d_Md_apply_55 : decode k_Md_apply 55 = .ok (.bipush 9, 2) := by decide +kernel
theorem d_Md_apply_57 : decode k_Md_apply 57 = .ok (.if_icmp .ne (10), 3) := by decide +kernel
theorem d_Md_apply_60 : decode k_Md_apply 60 = .ok (.aload_n 0, 1) := by decide +kernel
theorem d_Md_apply_61 : decode k_Md_apply 61 = .ok (.iload_n 1, 1) := by decide +kernel
theorem d_Md_apply_62 : decode k_Md_apply 62 = .ok (.iload_n 2, 1) := by decide +kernel
theorem d_Md_apply_63 : decode k_Md_apply 63 = .ok (.invokevirtual 245, 3) := by decide +kernel
theorem d_Md_apply_66 : decode k_Md_apply 66 = .ok (.ireturn, 1) := by decide +kernel
theorem d_Md_apply_67 : decode k_Md_apply 67 = .ok (.iload 4, 2) := by decide +kernel
theorem d_Md_apply_69 : decode k_Md_apply 69 = .ok (.iconst 5, 1) := by decide +kernel
theorem d_Md_apply_70 : decode k_Md_apply 70 = .ok (.if_icmp .eq (17), 3) := by decide +kernel
theorem d_Md_apply_73 : decode k_Md_apply 73 = .ok (.iload 4, 2) := by decide +kernel
theorem d_Md_apply_75 : decode k_Md_apply 75 = .ok (.bipush 7, 2) := by decide +kernel
theorem d_Md_apply_77 : decode k_Md_apply 77 = .ok (.if_icmp .eq (10), 3) := by decide +kernel
theorem d_Md_apply_80 : decode k_Md_apply 80 = .ok (.iload 4, 2) := by decide +kernel
theorem d_Md_apply_82 : decode k_Md_apply 82 = .ok (.bipush 8, 2) := by decide +kernel
theorem d_Md_apply_84 : decode k_Md_apply 84 = .ok (.if_icmp .ne (7), 3) := by decide +kernel
theorem d_Md_apply_87 : decode k_Md_apply 87 = .ok (.iconst 1, 1) := by decide +kernel
theorem d_Md_apply_88 : decode k_Md_apply 88 = .ok (.goto (4), 3) := by decide +kernel
theorem d_Md_apply_91 : decode k_Md_apply 91 = .ok (.iconst 0, 1) := by decide +kernel
theorem d_Md_apply_92 : decode k_Md_apply 92 = .ok (.istore 5, 2) := by decide +kernel
theorem d_Md_apply_94 : decode k_Md_apply 94 = .ok (.iload_n 2, 1) := by decide +kernel
theorem d_Md_apply_95 : decode k_Md_apply 95 = .ok (.iload 5, 2) := by decide +kernel
theorem d_Md_apply_97 : decode k_Md_apply 97 = .ok (.ifCond .eq (7), 3) := by decide +kernel
theorem d_Md_apply_100 : decode k_Md_apply 100 = .ok (.iconst 1, 1) := by decide +kernel
theorem d_Md_apply_101 : decode k_Md_apply 101 = .ok (.goto (4), 3) := by decide +kernel
theorem d_Md_apply_104 : decode k_Md_apply 104 = .ok (.iconst 2, 1) := by decide +kernel
theorem d_Md_apply_105 : decode k_Md_apply 105 = .ok (.if_icmp .eq (6), 3) := by decide +kernel
theorem d_Md_apply_108 : decode k_Md_apply 108 = .ok (.bipush (-4), 2) := by decide +kernel
theorem d_Md_apply_110 : decode k_Md_apply 110 = .ok (.ireturn, 1) := by decide +kernel
theorem d_Md_apply_111 : decode k_Md_apply 111 = .ok (.aload_n 0, 1) := by decide +kernel
theorem d_Md_apply_112 : decode k_Md_apply 112 = .ok (.iload_n 1, 1) := by decide +kernel
theorem d_Md_apply_113 : decode k_Md_apply 113 = .ok (.iload_n 2, 1) := by decide +kernel
theorem d_Md_apply_114 : decode k_Md_apply 114 = .ok (.iconst 1, 1) := by decide +kernel
theorem d_Md_apply_115 : decode k_Md_apply 115 = .ok (.isub, 1) := by decide +kernel
theorem d_Md_apply_116 : decode k_Md_apply 116 = .ok (.invokevirtual 211, 3) := by decide +kernel
theorem d_Md_apply_119 : decode k_Md_apply 119 = .ok (.istore 6, 2) := by decide +kernel
theorem d_Md_apply_121 : decode k_Md_apply 121 = .ok (.iload 4, 2) := by decide +kernel
theorem d_Md_apply_123 : decode k_Md_apply 123 = .ok (.iconst 5, 1) := by decide +kernel
theorem d_Md_apply_124 : decode k_Md_apply 124 = .ok (.if_icmp .ne (24), 3) := by decide +kernel
theorem d_Md_apply_127 : decode k_Md_apply 127 = .ok (.aload_n 0, 1) := by decide +kernel
theorem d_Md_apply_128 : decode k_Md_apply 128 = .ok (.aload_n 0, 1) := by decide +kernel
theorem d_Md_apply_129 : decode k_Md_apply 129 = .ok (.iload 6, 2) := by decide +kernel
theorem d_Md_apply_131 : decode k_Md_apply 131 = .ok (.invokevirtual 187, 3) := by decide +kernel
theorem d_Md_apply_134 : decode k_Md_apply 134 = .ok (.ifCond .eq (8), 3) := by decide +kernel
theorem d_Md_apply_137 : decode k_Md_apply 137 = .ok (.ldc 45, 2) := by decide +kernel
theorem d_Md_apply_139 : decode k_Md_apply 139 = .ok (.goto (5), 3) := by decide +kernel
theorem d_Md_apply_142 : decode k_Md_apply 142 = .ok (.ldc 83, 2) := by decide +kernel
theorem d_Md_apply_144 : decode k_Md_apply 144 = .ok (.invokevirtual 248, 3) := by decide +kernel
theorem d_Md_apply_147 : decode k_Md_apply 147 = .ok (.ireturn, 1) := by decide +kernel
theorem d_Md_apply_148 : decode k_Md_apply 148 = .ok (.iload 5, 2) := by decide +kernel
theorem d_Md_apply_150 : decode k_Md_apply 150 = .ok (.ifCond .eq (44), 3) := by decide +kernel
theorem d_Md_apply_153 : decode k_Md_apply 153 = .ok (.aload_n 0, 1) := by decide +kernel
theorem d_Md_apply_154 : decode k_Md_apply 154 = .ok (.iload 6, 2) := by decide +kernel
theorem d_Md_apply_156 : decode k_Md_apply 156 = .ok (.invokevirtual 187, 3) := by decide +kernel
theorem d_Md_apply_159 : decode k_Md_apply 159 = .ok (.ifCond .ne (8), 3) := by decide +kernel
theorem d_Md_apply_162 : decode k_Md_apply 162 = .ok (.bipush (-5), 2) := by decide +kernel
theorem d_Md_apply_164 : decode k_Md_apply 164 = .ok (.goto (29), 3) := by decide +kernel
theorem d_Md_apply_167 : decode k_Md_apply 167 = .ok (.aload_n 0, 1) := by decide +kernel
theorem d_Md_apply_168 : decode k_Md_apply 168 = .ok (.iload 4, 2) := by decide +kernel
theorem d_Md_apply_170 : decode k_Md_apply 170 = .ok (.bipush 7, 2) := by decide +kernel
theorem d_Md_apply_172 : decode k_Md_apply 172 = .ok (.if_icmp .ne (12), 3) := by decide +kernel
theorem d_Md_apply_175 : decode k_Md_apply 175 = .ok (.aload_n 0, 1) := by decide +kernel
theorem d_Md_apply_176 : decode k_Md_apply 176 = .ok (.iload 6, 2) := by decide +kernel
theorem d_Md_apply_178 : decode k_Md_apply 178 = .ok (.invokevirtual 193, 3) := by decide +kernel
theorem d_Md_apply_181 : decode k_Md_apply 181 = .ok (.goto (9), 3) := by decide +kernel
theorem d_Md_apply_184 : decode k_Md_apply 184 = .ok (.aload_n 0, 1) := by decide +kernel
theorem d_Md_apply_185 : decode k_Md_apply 185 = .ok (.iload 6, 2) := by decide +kernel
theorem d_Md_apply_187 : decode k_Md_apply 187 = .ok (.invokevirtual 190, 3) := by decide +kernel
theorem d_Md_apply_190 : decode k_Md_apply 190 = .ok (.invokevirtual 248, 3) := by decide +kernel
theorem d_Md_apply_193 : decode k_Md_apply 193 = .ok (.ireturn, 1) := by decide +kernel
theorem d_Md_apply_194 : decode k_Md_apply 194 = .ok (.aload_n 0, 1) := by decide +kernel
theorem d_Md_apply_195 : decode k_Md_apply 195 = .ok (.iload_n 1, 1) := by decide +kernel
theorem d_Md_apply_196 : decode k_Md_apply 196 = .ok (.iconst 0, 1) := by decide +kernel
theorem d_Md_apply_197 : decode k_Md_apply 197 = .ok (.invokevirtual 211, 3) := by decide +kernel
theorem d_Md_apply_200 : decode k_Md_apply 200 = .ok (.istore 7, 2) := by decide +kernel
theorem d_Md_apply_202 : decode k_Md_apply 202 = .ok (.iload 4, 2) := by decide +kernel
theorem d_Md_apply_204 : decode k_Md_apply 204 = .ok (.bipush 6, 2) := by decide +kernel
theorem d_Md_apply_206 : decode k_Md_apply 206 = .ok (.if_icmp .ne (29), 3) := by decide +kernel
theorem d_Md_apply_209 : decode k_Md_apply 209 = .ok (.aload_n 0, 1) := by decide +kernel
theorem d_Md_apply_210 : decode k_Md_apply 210 = .ok (.iconst 2, 1) := by decide +kernel
theorem d_Md_apply_211 : decode k_Md_apply 211 = .ok (.invokevirtual 171, 3) := by decide +kernel
theorem d_Md_apply_214 : decode k_Md_apply 214 = .ok (.ifCond .eq (18), 3) := by decide +kernel
theorem d_Md_apply_217 : decode k_Md_apply 217 = .ok (.aload_n 0, 1) := by decide +kernel
theorem d_Md_apply_218 : decode k_Md_apply 218 = .ok (.aload_n 0, 1) := by decide +kernel
theorem d_Md_apply_219 : decode k_Md_apply 219 = .ok (.iload 6, 2) := by decide +kernel
theorem d_Md_apply_221 : decode k_Md_apply 221 = .ok (.iload 7, 2) := by decide +kernel
theorem d_Md_apply_223 : decode k_Md_apply 223 = .ok (.invokevirtual 152, 3) := by decide +kernel
theorem d_Md_apply_226 : decode k_Md_apply 226 = .ok (.invokevirtual 248, 3) := by decide +kernel
theorem d_Md_apply_229 : decode k_Md_apply 229 = .ok (.goto (5), 3) := by decide +kernel
theorem d_Md_apply_232 : decode k_Md_apply 232 = .ok (.bipush (-7), 2) := by decide +kernel
theorem d_Md_apply_234 : decode k_Md_apply 234 = .ok (.ireturn, 1) := by decide +kernel
theorem d_Md_apply_235 : decode k_Md_apply 235 = .ok (.iload 4, 2) := by decide +kernel
theorem d_Md_apply_237 : decode k_Md_apply 237 = .ok (.iconst 4, 1) := by decide +kernel
theorem d_Md_apply_238 : decode k_Md_apply 238 = .ok (.if_icmp .ne (22), 3) := by decide +kernel
theorem d_Md_apply_241 : decode k_Md_apply 241 = .ok (.aload_n 0, 1) := by decide +kernel
theorem d_Md_apply_242 : decode k_Md_apply 242 = .ok (.iload 6, 2) := by decide +kernel
theorem d_Md_apply_244 : decode k_Md_apply 244 = .ok (.iload 7, 2) := by decide +kernel
theorem d_Md_apply_246 : decode k_Md_apply 246 = .ok (.if_icmp .ne (8), 3) := by decide +kernel
theorem d_Md_apply_249 : decode k_Md_apply 249 = .ok (.ldc 83, 2) := by decide +kernel
theorem d_Md_apply_251 : decode k_Md_apply 251 = .ok (.goto (5), 3) := by decide +kernel
theorem d_Md_apply_254 : decode k_Md_apply 254 = .ok (.ldc 45, 2) := by decide +kernel
theorem d_Md_apply_256 : decode k_Md_apply 256 = .ok (.invokevirtual 248, 3) := by decide +kernel
theorem d_Md_apply_259 : decode k_Md_apply 259 = .ok (.ireturn, 1) := by decide +kernel
theorem d_Md_apply_260 : decode k_Md_apply 260 = .ok (.iload 6, 2) := by decide +kernel
theorem d_Md_apply_262 : decode k_Md_apply 262 = .ok (.invokestatic 251, 3) := by decide +kernel
theorem d_Md_apply_265 : decode k_Md_apply 265 = .ok (.ifCond .eq (11), 3) := by decide +kernel
theorem d_Md_apply_268 : decode k_Md_apply 268 = .ok (.iload 7, 2) := by decide +kernel
theorem d_Md_apply_270 : decode k_Md_apply 270 = .ok (.invokestatic 251, 3) := by decide +kernel
theorem d_Md_apply_273 : decode k_Md_apply 273 = .ok (.ifCond .ne (6), 3) := by decide +kernel
theorem d_Md_apply_276 : decode k_Md_apply 276 = .ok (.bipush (-5), 2) := by decide +kernel
theorem d_Md_apply_278 : decode k_Md_apply 278 = .ok (.ireturn, 1) := by decide +kernel
theorem d_Md_apply_279 : decode k_Md_apply 279 = .ok (.iload 4, 2) := by decide +kernel
theorem d_Md_apply_281 : decode k_Md_apply 281 = .ok (.iconst 3, 1) := by decide +kernel
theorem d_Md_apply_282 : decode k_Md_apply 282 = .ok (.if_icmp .ne (22), 3) := by decide +kernel
theorem d_Md_apply_285 : decode k_Md_apply 285 = .ok (.aload_n 0, 1) := by decide +kernel
theorem d_Md_apply_286 : decode k_Md_apply 286 = .ok (.iload 6, 2) := by decide +kernel
theorem d_Md_apply_288 : decode k_Md_apply 288 = .ok (.iload 7, 2) := by decide +kernel
theorem d_Md_apply_290 : decode k_Md_apply 290 = .ok (.if_icmp .ge (8), 3) := by decide +kernel
theorem d_Md_apply_293 : decode k_Md_apply 293 = .ok (.ldc 83, 2) := by decide +kernel
theorem d_Md_apply_295 : decode k_Md_apply 295 = .ok (.goto (5), 3) := by decide +kernel
theorem d_Md_apply_298 : decode k_Md_apply 298 = .ok (.ldc 45, 2) := by decide +kernel
theorem d_Md_apply_300 : decode k_Md_apply 300 = .ok (.invokevirtual 248, 3) := by decide +kernel
theorem d_Md_apply_303 : decode k_Md_apply 303 = .ok (.ireturn, 1) := by decide +kernel
theorem d_Md_apply_304 : decode k_Md_apply 304 = .ok (.aload_n 0, 1) := by decide +kernel
theorem d_Md_apply_305 : decode k_Md_apply 305 = .ok (.iload 4, 2) := by decide +kernel
theorem d_Md_apply_307 : decode k_Md_apply 307 = .ok (.ifCond .ne (11), 3) := by decide +kernel
theorem d_Md_apply_310 : decode k_Md_apply 310 = .ok (.iload 6, 2) := by decide +kernel
theorem d_Md_apply_312 : decode k_Md_apply 312 = .ok (.iload 7, 2) := by decide +kernel
theorem d_Md_apply_314 : decode k_Md_apply 314 = .ok (.iadd, 1) := by decide +kernel
theorem d_Md_apply_315 : decode k_Md_apply 315 = .ok (.goto (22), 3) := by decide +kernel
theorem d_Md_apply_318 : decode k_Md_apply 318 = .ok (.iload 4, 2) := by decide +kernel
theorem d_Md_apply_320 : decode k_Md_apply 320 = .ok (.iconst 1, 1) := by decide +kernel
theorem d_Md_apply_321 : decode k_Md_apply 321 = .ok (.if_icmp .ne (11), 3) := by decide +kernel
theorem d_Md_apply_324 : decode k_Md_apply 324 = .ok (.iload 6, 2) := by decide +kernel
theorem d_Md_apply_326 : decode k_Md_apply 326 = .ok (.iload 7, 2) := by decide +kernel
theorem d_Md_apply_328 : decode k_Md_apply 328 = .ok (.isub, 1) := by decide +kernel
theorem d_Md_apply_329 : decode k_Md_apply 329 = .ok (.goto (8), 3) := by decide +kernel
theorem d_Md_apply_332 : decode k_Md_apply 332 = .ok (.iload 6, 2) := by decide +kernel
theorem d_Md_apply_334 : decode k_Md_apply 334 = .ok (.iload 7, 2) := by decide +kernel
theorem d_Md_apply_336 : decode k_Md_apply 336 = .ok (.imul, 1) := by decide +kernel
theorem d_Md_apply_337 : decode k_Md_apply 337 = .ok (.invokestatic 121, 3) := by decide +kernel
theorem d_Md_apply_340 : decode k_Md_apply 340 = .ok (.invokevirtual 248, 3) := by decide +kernel
theorem d_Md_apply_343 : decode k_Md_apply 343 = .ok (.ireturn, 1) := by decide +kernel
theorem d_Md_listed_0 : decode k_Md_listed 0 = .ok (.aload_n 0, 1) := by decide +kernel
theorem d_Md_listed_1 : decode k_Md_listed 1 = .ok (.iconst 2, 1) := by decide +kernel
theorem d_Md_listed_2 : decode k_Md_listed 2 = .ok (.iload_n 2, 1) := by decide +kernel
theorem d_Md_listed_3 : decode k_Md_listed 3 = .ok (.imul, 1) := by decide +kernel
theorem d_Md_listed_4 : decode k_Md_listed 4 = .ok (.invokevirtual 171, 3) := by decide +kernel
theorem d_Md_listed_7 : decode k_Md_listed 7 = .ok (.ifCond .ne (6), 3) := by decide +kernel
theorem d_Md_listed_10 : decode k_Md_listed 10 = .ok (.bipush (-7), 2) := by decide +kernel
theorem d_Md_listed_12 : decode k_Md_listed 12 = .ok (.ireturn, 1) := by decide +kernel
theorem d_Md_listed_13 : decode k_Md_listed 13 = .ok (.ldc 45, 2) := by decide +kernel
theorem d_Md_listed_15 : decode k_Md_listed 15 = .ok (.istore_n 3, 1) := by decide +kernel
theorem d_Md_listed_16 : decode k_Md_listed 16 = .ok (.iconst 0, 1) := by decide +kernel
theorem d_Md_listed_17 : decode k_Md_listed 17 = .ok (.istore 4, 2) := by decide +kernel
theorem d_Md_listed_19 : decode k_Md_listed 19 = .ok (.iload 4, 2) := by decide +kernel
theorem d_Md_listed_21 : decode k_Md_listed 21 = .ok (.iload_n 2, 1) := by decide +kernel
theorem d_Md_listed_22 : decode k_Md_listed 22 = .ok (.if_icmp .ge (22), 3) := by decide +kernel
theorem d_Md_listed_25 : decode k_Md_listed 25 = .ok (.aload_n 0, 1) := by decide +kernel
theorem d_Md_listed_26 : decode k_Md_listed 26 = .ok (.aload_n 0, 1) := by decide +kernel
theorem d_Md_listed_27 : decode k_Md_listed 27 = .ok (.iload_n 1, 1) := by decide +kernel
theorem d_Md_listed_28 : decode k_Md_listed 28 = .ok (.iload 4, 2) := by decide +kernel
theorem d_Md_listed_30 : decode k_Md_listed 30 = .ok (.invokevirtual 211, 3) := by decide +kernel
theorem d_Md_listed_33 : decode k_Md_listed 33 = .ok (.iload_n 3, 1) := by decide +kernel
theorem d_Md_listed_34 : decode k_Md_listed 34 = .ok (.invokevirtual 152, 3) := by decide +kernel
theorem d_Md_listed_37 : decode k_Md_listed 37 = .ok (.istore_n 3, 1) := by decide +kernel
theorem d_Md_listed_38 : decode k_Md_listed 38 = .ok (.iinc 4 1, 3) := by decide +kernel
theorem d_Md_listed_41 : decode k_Md_listed 41 = .ok (.goto (-22), 3) := by decide +kernel
theorem d_Md_listed_44 : decode k_Md_listed 44 = .ok (.aload_n 0, 1) := by decide +kernel
theorem d_Md_listed_45 : decode k_Md_listed 45 = .ok (.iload_n 3, 1) := by decide +kernel
theorem d_Md_listed_46 : decode k_Md_listed 46 = .ok (.invokevirtual 248, 3) := by decide +kernel
theorem d_Md_listed_49 : decode k_Md_listed 49 = .ok (.ireturn, 1) := by decide +kernel
theorem d_Md_enter_0 : decode k_Md_enter 0 = .ok (.aload_n 0, 1) := by decide +kernel
theorem d_Md_enter_1 : decode k_Md_enter 1 = .ok (.aload_n 0, 1) := by decide +kernel
theorem d_Md_enter_2 : decode k_Md_enter 2 = .ok (.iload_n 3, 1) := by decide +kernel
theorem d_Md_enter_3 : decode k_Md_enter 3 = .ok (.invokevirtual 193, 3) := by decide +kernel
theorem d_Md_enter_6 : decode k_Md_enter 6 = .ok (.invokevirtual 202, 3) := by decide +kernel
theorem d_Md_enter_9 : decode k_Md_enter 9 = .ok (.iload_n 2, 1) := by decide +kernel
theorem d_Md_enter_10 : decode k_Md_enter 10 = .ok (.if_icmp .eq (6), 3) := by decide +kernel
theorem d_Md_enter_13 : decode k_Md_enter 13 = .ok (.bipush (-4), 2) := by decide +kernel
