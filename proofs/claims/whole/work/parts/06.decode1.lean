theorem d_Room_length_9 : decode k_Room_length 9 = .ok (.if_icmp .ge (22), 3) := by decide +kernel
theorem d_Room_length_12 : decode k_Room_length 12 = .ok (.iload_n 2, 1) := by decide +kernel
theorem d_Room_length_13 : decode k_Room_length 13 = .ok (.invokestatic 73, 3) := by decide +kernel
theorem d_Room_length_16 : decode k_Room_length 16 = .ok (.ifCond .eq (15), 3) := by decide +kernel
theorem d_Room_length_19 : decode k_Room_length 19 = .ok (.aload_n 0, 1) := by decide +kernel
theorem d_Room_length_20 : decode k_Room_length 20 = .ok (.iload_n 2, 1) := by decide +kernel
theorem d_Room_length_21 : decode k_Room_length 21 = .ok (.invokevirtual 76, 3) := by decide +kernel
theorem d_Room_length_24 : decode k_Room_length 24 = .ok (.istore_n 2, 1) := by decide +kernel
theorem d_Room_length_25 : decode k_Room_length 25 = .ok (.iinc 3 1, 3) := by decide +kernel
theorem d_Room_length_28 : decode k_Room_length 28 = .ok (.goto (-24), 3) := by decide +kernel
theorem d_Room_length_31 : decode k_Room_length 31 = .ok (.iload_n 3, 1) := by decide +kernel
theorem d_Room_length_32 : decode k_Room_length 32 = .ok (.ireturn, 1) := by decide +kernel
theorem d_Room_tail_0 : decode k_Room_tail 0 = .ok (.iload_n 1, 1) := by decide +kernel
theorem d_Room_tail_1 : decode k_Room_tail 1 = .ok (.istore_n 3, 1) := by decide +kernel
theorem d_Room_tail_2 : decode k_Room_tail 2 = .ok (.iconst 0, 1) := by decide +kernel
theorem d_Room_tail_3 : decode k_Room_tail 3 = .ok (.istore 4, 2) := by decide +kernel
theorem d_Room_tail_5 : decode k_Room_tail 5 = .ok (.iload 4, 2) := by decide +kernel
theorem d_Room_tail_7 : decode k_Room_tail 7 = .ok (.iload_n 2, 1) := by decide +kernel
theorem d_Room_tail_8 : decode k_Room_tail 8 = .ok (.if_icmp .ge (22), 3) := by decide +kernel
theorem d_Room_tail_11 : decode k_Room_tail 11 = .ok (.iload_n 3, 1) := by decide +kernel
theorem d_Room_tail_12 : decode k_Room_tail 12 = .ok (.invokestatic 73, 3) := by decide +kernel
theorem d_Room_tail_15 : decode k_Room_tail 15 = .ok (.ifCond .eq (15), 3) := by decide +kernel
theorem d_Room_tail_18 : decode k_Room_tail 18 = .ok (.aload_n 0, 1) := by decide +kernel
theorem d_Room_tail_19 : decode k_Room_tail 19 = .ok (.iload_n 3, 1) := by decide +kernel
theorem d_Room_tail_20 : decode k_Room_tail 20 = .ok (.invokevirtual 76, 3) := by decide +kernel
theorem d_Room_tail_23 : decode k_Room_tail 23 = .ok (.istore_n 3, 1) := by decide +kernel
theorem d_Room_tail_24 : decode k_Room_tail 24 = .ok (.iinc 4 1, 3) := by decide +kernel
theorem d_Room_tail_27 : decode k_Room_tail 27 = .ok (.goto (-22), 3) := by decide +kernel
theorem d_Room_tail_30 : decode k_Room_tail 30 = .ok (.iload_n 3, 1) := by decide +kernel
theorem d_Room_tail_31 : decode k_Room_tail 31 = .ok (.ireturn, 1) := by decide +kernel
theorem d_Room_binding_0 : decode k_Room_binding 0 = .ok (.iload_n 2, 1) := by decide +kernel
theorem d_Room_binding_1 : decode k_Room_binding 1 = .ok (.istore_n 3, 1) := by decide +kernel
theorem d_Room_binding_2 : decode k_Room_binding 2 = .ok (.iconst 0, 1) := by decide +kernel
theorem d_Room_binding_3 : decode k_Room_binding 3 = .ok (.istore 4, 2) := by decide +kernel
theorem d_Room_binding_5 : decode k_Room_binding 5 = .ok (.iload 4, 2) := by decide +kernel
theorem d_Room_binding_7 : decode k_Room_binding 7 = .ok (.aload_n 0, 1) := by decide +kernel
theorem d_Room_binding_8 : decode k_Room_binding 8 = .ok (.getfield 27, 3) := by decide +kernel
theorem d_Room_binding_11 : decode k_Room_binding 11 = .ok (.if_icmp .ge (41), 3) := by decide +kernel
theorem d_Room_binding_14 : decode k_Room_binding 14 = .ok (.iload_n 3, 1) := by decide +kernel
theorem d_Room_binding_15 : decode k_Room_binding 15 = .ok (.invokestatic 73, 3) := by decide +kernel
theorem d_Room_binding_18 : decode k_Room_binding 18 = .ok (.ifCond .eq (34), 3) := by decide +kernel
theorem d_Room_binding_21 : decode k_Room_binding 21 = .ok (.aload_n 0, 1) := by decide +kernel
theorem d_Room_binding_22 : decode k_Room_binding 22 = .ok (.aload_n 0, 1) := by decide +kernel
theorem d_Room_binding_23 : decode k_Room_binding 23 = .ok (.iload_n 3, 1) := by decide +kernel
theorem d_Room_binding_24 : decode k_Room_binding 24 = .ok (.invokevirtual 79, 3) := by decide +kernel
theorem d_Room_binding_27 : decode k_Room_binding 27 = .ok (.invokevirtual 79, 3) := by decide +kernel
theorem d_Room_binding_30 : decode k_Room_binding 30 = .ok (.iload_n 1, 1) := by decide +kernel
theorem d_Room_binding_31 : decode k_Room_binding 31 = .ok (.if_icmp .ne (9), 3) := by decide +kernel
theorem d_Room_binding_34 : decode k_Room_binding 34 = .ok (.aload_n 0, 1) := by decide +kernel
theorem d_Room_binding_35 : decode k_Room_binding 35 = .ok (.iload_n 3, 1) := by decide +kernel
theorem d_Room_binding_36 : decode k_Room_binding 36 = .ok (.invokevirtual 79, 3) := by decide +kernel
theorem d_Room_binding_39 : decode k_Room_binding 39 = .ok (.ireturn, 1) := by decide +kernel
theorem d_Room_binding_40 : decode k_Room_binding 40 = .ok (.aload_n 0, 1) := by decide +kernel
theorem d_Room_binding_41 : decode k_Room_binding 41 = .ok (.iload_n 3, 1) := by decide +kernel
theorem d_Room_binding_42 : decode k_Room_binding 42 = .ok (.invokevirtual 76, 3) := by decide +kernel
theorem d_Room_binding_45 : decode k_Room_binding 45 = .ok (.istore_n 3, 1) := by decide +kernel
theorem d_Room_binding_46 : decode k_Room_binding 46 = .ok (.iinc 4 1, 3) := by decide +kernel
theorem d_Room_binding_49 : decode k_Room_binding 49 = .ok (.goto (-44), 3) := by decide +kernel
theorem d_Room_binding_52 : decode k_Room_binding 52 = .ok (.iconst 2, 1) := by decide +kernel
theorem d_Room_binding_53 : decode k_Room_binding 53 = .ok (.ireturn, 1) := by decide +kernel
theorem d_Room_collect_0 : decode k_Room_collect 0 = .ok (.aload_n 0, 1) := by decide +kernel
theorem d_Room_collect_1 : decode k_Room_collect 1 = .ok (.iconst 0, 1) := by decide +kernel
theorem d_Room_collect_2 : decode k_Room_collect 2 = .ok (.putfield 53, 3) := by decide +kernel
theorem d_Room_collect_5 : decode k_Room_collect 5 = .ok (.aload_n 0, 1) := by decide +kernel
theorem d_Room_collect_6 : decode k_Room_collect 6 = .ok (.iconst 0, 1) := by decide +kernel
theorem d_Room_collect_7 : decode k_Room_collect 7 = .ok (.putfield 82, 3) := by decide +kernel
theorem d_Room_collect_10 : decode k_Room_collect 10 = .ok (.aload_n 0, 1) := by decide +kernel
theorem d_Room_collect_11 : decode k_Room_collect 11 = .ok (.aload_n 0, 1) := by decide +kernel
theorem d_Room_collect_12 : decode k_Room_collect 12 = .ok (.getfield 13, 3) := by decide +kernel
theorem d_Room_collect_15 : decode k_Room_collect 15 = .ok (.getfield 85, 3) := by decide +kernel
theorem d_Room_collect_18 : decode k_Room_collect 18 = .ok (.invokevirtual 90, 3) := by decide +kernel
theorem d_Room_collect_21 : decode k_Room_collect 21 = .ok (.aload_n 0, 1) := by decide +kernel
theorem d_Room_collect_22 : decode k_Room_collect 22 = .ok (.aload_n 0, 1) := by decide +kernel
theorem d_Room_collect_23 : decode k_Room_collect 23 = .ok (.getfield 13, 3) := by decide +kernel
theorem d_Room_collect_26 : decode k_Room_collect 26 = .ok (.getfield 94, 3) := by decide +kernel
theorem d_Room_collect_29 : decode k_Room_collect 29 = .ok (.invokevirtual 90, 3) := by decide +kernel
theorem d_Room_collect_32 : decode k_Room_collect 32 = .ok (.iconst 0, 1) := by decide +kernel
theorem d_Room_collect_33 : decode k_Room_collect 33 = .ok (.istore_n 1, 1) := by decide +kernel
theorem d_Room_collect_34 : decode k_Room_collect 34 = .ok (.iload_n 1, 1) := by decide +kernel
theorem d_Room_collect_35 : decode k_Room_collect 35 = .ok (.aload_n 0, 1) := by decide +kernel
theorem d_Room_collect_36 : decode k_Room_collect 36 = .ok (.getfield 13, 3) := by decide +kernel
theorem d_Room_collect_39 : decode k_Room_collect 39 = .ok (.getfield 97, 3) := by decide +kernel
theorem d_Room_collect_42 : decode k_Room_collect 42 = .ok (.if_icmp .ge (54), 3) := by decide +kernel
theorem d_Room_collect_45 : decode k_Room_collect 45 = .ok (.iload_n 1, 1) := by decide +kernel
theorem d_Room_collect_46 : decode k_Room_collect 46 = .ok (.bipush 30, 2) := by decide +kernel
theorem d_Room_collect_48 : decode k_Room_collect 48 = .ok (.if_icmp .ge (48), 3) := by decide +kernel
theorem d_Room_collect_51 : decode k_Room_collect 51 = .ok (.aload_n 0, 1) := by decide +kernel
theorem d_Room_collect_52 : decode k_Room_collect 52 = .ok (.aload_n 0, 1) := by decide +kernel
theorem d_Room_collect_53 : decode k_Room_collect 53 = .ok (.getfield 13, 3) := by decide +kernel
theorem d_Room_collect_56 : decode k_Room_collect 56 = .ok (.getfield 100, 3) := by decide +kernel
theorem d_Room_collect_59 : decode k_Room_collect 59 = .ok (.iload_n 1, 1) := by decide +kernel
theorem d_Room_collect_60 : decode k_Room_collect 60 = .ok (.iaload, 1) := by decide +kernel
theorem d_Room_collect_61 : decode k_Room_collect 61 = .ok (.invokevirtual 90, 3) := by decide +kernel
theorem d_Room_collect_64 : decode k_Room_collect 64 = .ok (.aload_n 0, 1) := by decide +kernel
theorem d_Room_collect_65 : decode k_Room_collect 65 = .ok (.aload_n 0, 1) := by decide +kernel
theorem d_Room_collect_66 : decode k_Room_collect 66 = .ok (.getfield 13, 3) := by decide +kernel
theorem d_Room_collect_69 : decode k_Room_collect 69 = .ok (.getfield 103, 3) := by decide +kernel
theorem d_Room_collect_72 : decode k_Room_collect 72 = .ok (.iload_n 1, 1) := by decide +kernel
theorem d_Room_collect_73 : decode k_Room_collect 73 = .ok (.iaload, 1) := by decide +kernel
theorem d_Room_collect_74 : decode k_Room_collect 74 = .ok (.invokevirtual 90, 3) := by decide +kernel
theorem d_Room_collect_77 : decode k_Room_collect 77 = .ok (.aload_n 0, 1) := by decide +kernel
theorem d_Room_collect_78 : decode k_Room_collect 78 = .ok (.aload_n 0, 1) := by decide +kernel
theorem d_Room_collect_79 : decode k_Room_collect 79 = .ok (.getfield 13, 3) := by decide +kernel
theorem d_Room_collect_82 : decode k_Room_collect 82 = .ok (.getfield 106, 3) := by decide +kernel
theorem d_Room_collect_85 : decode k_Room_collect 85 = .ok (.iload_n 1, 1) := by decide +kernel
theorem d_Room_collect_86 : decode k_Room_collect 86 = .ok (.iaload, 1) := by decide +kernel
theorem d_Room_collect_87 : decode k_Room_collect 87 = .ok (.invokevirtual 90, 3) := by decide +kernel
theorem d_Room_collect_90 : decode k_Room_collect 90 = .ok (.iinc 1 1, 3) := by decide +kernel
theorem d_Room_collect_93 : decode k_Room_collect 93 = .ok (.goto (-59), 3) := by decide +kernel
theorem d_Room_collect_96 : decode k_Room_collect 96 = .ok (.iconst 0, 1) := by decide +kernel
theorem d_Room_collect_97 : decode k_Room_collect 97 = .ok (.istore_n 1, 1) := by decide +kernel
theorem d_Room_collect_98 : decode k_Room_collect 98 = .ok (.iload_n 1, 1) := by decide +kernel
theorem d_Room_collect_99 : decode k_Room_collect 99 = .ok (.aload_n 0, 1) := by decide +kernel
theorem d_Room_collect_100 : decode k_Room_collect 100 = .ok (.getfield 17, 3) := by decide +kernel
theorem d_Room_collect_103 : decode k_Room_collect 103 = .ok (.getfield 109, 3) := by decide +kernel
theorem d_Room_collect_106 : decode k_Room_collect 106 = .ok (.if_icmp .ge (28), 3) := by decide +kernel
theorem d_Room_collect_109 : decode k_Room_collect 109 = .ok (.iload_n 1, 1) := by decide +kernel
theorem d_Room_collect_110 : decode k_Room_collect 110 = .ok (.bipush 40, 2) := by decide +kernel
theorem d_Room_collect_112 : decode k_Room_collect 112 = .ok (.if_icmp .ge (22), 3) := by decide +kernel
theorem d_Room_collect_115 : decode k_Room_collect 115 = .ok (.aload_n 0, 1) := by decide +kernel
theorem d_Room_collect_116 : decode k_Room_collect 116 = .ok (.aload_n 0, 1) := by decide +kernel
theorem d_Room_collect_117 : decode k_Room_collect 117 = .ok (.getfield 17, 3) := by decide +kernel
theorem d_Room_collect_120 : decode k_Room_collect 120 = .ok (.getfield 114, 3) := by decide +kernel
theorem d_Room_collect_123 : decode k_Room_collect 123 = .ok (.iload_n 1, 1) := by decide +kernel
theorem d_Room_collect_124 : decode k_Room_collect 124 = .ok (.iaload, 1) := by decide +kernel
theorem d_Room_collect_125 : decode k_Room_collect 125 = .ok (.invokevirtual 90, 3) := by decide +kernel
theorem d_Room_collect_128 : decode k_Room_collect 128 = .ok (.iinc 1 1, 3) := by decide +kernel
theorem d_Room_collect_131 : decode k_Room_collect 131 = .ok (.goto (-33), 3) := by decide +kernel
theorem d_Room_collect_134 : decode k_Room_collect 134 = .ok (.iconst 0, 1) := by decide +kernel
theorem d_Room_collect_135 : decode k_Room_collect 135 = .ok (.istore_n 1, 1) := by decide +kernel
theorem d_Room_collect_136 : decode k_Room_collect 136 = .ok (.iload_n 1, 1) := by decide +kernel
theorem d_Room_collect_137 : decode k_Room_collect 137 = .ok (.aload_n 0, 1) := by decide +kernel
theorem d_Room_collect_138 : decode k_Room_collect 138 = .ok (.getfield 82, 3) := by decide +kernel
theorem d_Room_collect_141 : decode k_Room_collect 141 = .ok (.if_icmp .ge (66), 3) := by decide +kernel
theorem d_Room_collect_144 : decode k_Room_collect 144 = .ok (.iload_n 1, 1) := by decide +kernel
theorem d_Room_collect_145 : decode k_Room_collect 145 = .ok (.aload_n 0, 1) := by decide +kernel
theorem d_Room_collect_146 : decode k_Room_collect 146 = .ok (.getfield 27, 3) := by decide +kernel
theorem d_Room_collect_149 : decode k_Room_collect 149 = .ok (.if_icmp .ge (58), 3) := by decide +kernel
theorem d_Room_collect_152 : decode k_Room_collect 152 = .ok (.aload_n 0, 1) := by decide +kernel
theorem d_Room_collect_153 : decode k_Room_collect 153 = .ok (.getfield 44, 3) := by decide +kernel
theorem d_Room_collect_156 : decode k_Room_collect 156 = .ok (.iload_n 1, 1) := by decide +kernel
theorem d_Room_collect_157 : decode k_Room_collect 157 = .ok (.iaload, 1) := by decide +kernel
theorem d_Room_collect_158 : decode k_Room_collect 158 = .ok (.istore_n 2, 1) := by decide +kernel
theorem d_Room_collect_159 : decode k_Room_collect 159 = .ok (.iload_n 2, 1) := by decide +kernel
theorem d_Room_collect_160 : decode k_Room_collect 160 = .ok (.ifCond .lt (41), 3) := by decide +kernel
theorem d_Room_collect_163 : decode k_Room_collect 163 = .ok (.iload_n 2, 1) := by decide +kernel
theorem d_Room_collect_164 : decode k_Room_collect 164 = .ok (.aload_n 0, 1) := by decide +kernel
theorem d_Room_collect_165 : decode k_Room_collect 165 = .ok (.getfield 27, 3) := by decide +kernel
theorem d_Room_collect_168 : decode k_Room_collect 168 = .ok (.if_icmp .ge (33), 3) := by decide +kernel
theorem d_Room_collect_171 : decode k_Room_collect 171 = .ok (.aload_n 0, 1) := by decide +kernel
theorem d_Room_collect_172 : decode k_Room_collect 172 = .ok (.aload_n 0, 1) := by decide +kernel
theorem d_Room_collect_173 : decode k_Room_collect 173 = .ok (.getfield 30, 3) := by decide +kernel
theorem d_Room_collect_176 : decode k_Room_collect 176 = .ok (.iload_n 2, 1) := by decide +kernel
theorem d_Room_collect_177 : decode k_Room_collect 177 = .ok (.iaload, 1) := by decide +kernel
theorem d_Room_collect_178 : decode k_Room_collect 178 = .ok (.invokevirtual 90, 3) := by decide +kernel
theorem d_Room_collect_181 : decode k_Room_collect 181 = .ok (.aload_n 0, 1) := by decide +kernel
theorem d_Room_collect_182 : decode k_Room_collect 182 = .ok (.aload_n 0, 1) := by decide +kernel
theorem d_Room_collect_183 : decode k_Room_collect 183 = .ok (.getfield 34, 3) := by decide +kernel
theorem d_Room_collect_186 : decode k_Room_collect 186 = .ok (.iload_n 2, 1) := by decide +kernel
theorem d_Room_collect_187 : decode k_Room_collect 187 = .ok (.iaload, 1) := by decide +kernel
theorem d_Room_collect_188 : decode k_Room_collect 188 = .ok (.invokevirtual 90, 3) := by decide +kernel
theorem d_Room_collect_191 : decode k_Room_collect 191 = .ok (.aload_n 0, 1) := by decide +kernel
theorem d_Room_collect_192 : decode k_Room_collect 192 = .ok (.aload_n 0, 1) := by decide +kernel
theorem d_Room_collect_193 : decode k_Room_collect 193 = .ok (.getfield 37, 3) := by decide +kernel
theorem d_Room_collect_196 : decode k_Room_collect 196 = .ok (.iload_n 2, 1) := by decide +kernel
theorem d_Room_collect_197 : decode k_Room_collect 197 = .ok (.iaload, 1) := by decide +kernel
theorem d_Room_collect_198 : decode k_Room_collect 198 = .ok (.invokevirtual 90, 3) := by decide +kernel
theorem d_Room_collect_201 : decode k_Room_collect 201 = .ok (.iinc 1 1, 3) := by decide +kernel
theorem d_Room_collect_204 : decode k_Room_collect 204 = .ok (.goto (-68), 3) := by decide +kernel
theorem d_Room_collect_207 : decode k_Room_collect 207 = .ok (.aload_n 0, 1) := by decide +kernel
theorem d_Room_collect_208 : decode k_Room_collect 208 = .ok (.invokevirtual 117, 3) := by decide +kernel
theorem d_Room_collect_211 : decode k_Room_collect 211 = .ok (.return_, 1) := by decide +kernel
theorem d_Room_reach_0 : decode k_Room_reach 0 = .ok (.iload_n 1, 1) := by decide +kernel
theorem d_Room_reach_1 : decode k_Room_reach 1 = .ok (.invokestatic 120, 3) := by decide +kernel
theorem d_Room_reach_4 : decode k_Room_reach 4 = .ok (.istore_n 2, 1) := by decide +kernel
theorem d_Room_reach_5 : decode k_Room_reach 5 = .ok (.iload_n 1, 1) := by decide +kernel
theorem d_Room_reach_6 : decode k_Room_reach 6 = .ok (.invokestatic 69, 3) := by decide +kernel
theorem d_Room_reach_9 : decode k_Room_reach 9 = .ok (.istore_n 3, 1) := by decide +kernel
theorem d_Room_reach_10 : decode k_Room_reach 10 = .ok (.iload_n 2, 1) := by decide +kernel
theorem d_Room_reach_11 : decode k_Room_reach 11 = .ok (.iconst 4, 1) := by decide +kernel
theorem d_Room_reach_12 : decode k_Room_reach 12 = .ok (.if_icmp .eq (8), 3) := by decide +kernel
theorem d_Room_reach_15 : decode k_Room_reach 15 = .ok (.iload_n 2, 1) := by decide +kernel
theorem d_Room_reach_16 : decode k_Room_reach 16 = .ok (.iconst 5, 1) := by decide +kernel
theorem d_Room_reach_17 : decode k_Room_reach 17 = .ok (.if_icmp .ne (7), 3) := by decide +kernel
theorem d_Room_reach_20 : decode k_Room_reach 20 = .ok (.iconst 1, 1) := by decide +kernel
theorem d_Room_reach_21 : decode k_Room_reach 21 = .ok (.goto (4), 3) := by decide +kernel
theorem d_Room_reach_24 : decode k_Room_reach 24 = .ok (.iconst 0, 1) := by decide +kernel
theorem d_Room_reach_25 : decode k_Room_reach 25 = .ok (.istore 4, 2) := by decide +kernel
theorem d_Room_reach_27 : decode k_Room_reach 27 = .ok (.iload 4, 2) := by decide +kernel
theorem d_Room_reach_29 : decode k_Room_reach 29 = .ok (.ifCond .eq (35), 3) := by decide +kernel
theorem d_Room_reach_32 : decode k_Room_reach 32 = .ok (.iload_n 3, 1) := by decide +kernel
theorem d_Room_reach_33 : decode k_Room_reach 33 = .ok (.ifCond .lt (31), 3) := by decide +kernel
theorem d_Room_reach_36 : decode k_Room_reach 36 = .ok (.iload_n 3, 1) := by decide +kernel
theorem d_Room_reach_37 : decode k_Room_reach 37 = .ok (.aload_n 0, 1) := by decide +kernel
theorem d_Room_reach_38 : decode k_Room_reach 38 = .ok (.getfield 27, 3) := by decide +kernel
theorem d_Room_reach_41 : decode k_Room_reach 41 = .ok (.if_icmp .ge (23), 3) := by decide +kernel
theorem d_Room_reach_44 : decode k_Room_reach 44 = .ok (.aload_n 0, 1) := by decide +kernel
theorem d_Room_reach_45 : decode k_Room_reach 45 = .ok (.getfield 40, 3) := by decide +kernel
theorem d_Room_reach_48 : decode k_Room_reach 48 = .ok (.iload_n 3, 1) := by decide +kernel
theorem d_Room_reach_49 : decode k_Room_reach 49 = .ok (.baload, 1) := by decide +kernel
theorem d_Room_reach_50 : decode k_Room_reach 50 = .ok (.ifCond .ne (14), 3) := by decide +kernel
theorem d_Room_reach_53 : decode k_Room_reach 53 = .ok (.aload_n 0, 1) := by decide +kernel
theorem d_Room_reach_54 : decode k_Room_reach 54 = .ok (.getfield 82, 3) := by decide +kernel
theorem d_Room_reach_57 : decode k_Room_reach 57 = .ok (.aload_n 0, 1) := by decide +kernel
theorem d_Room_reach_58 : decode k_Room_reach 58 = .ok (.getfield 27, 3) := by decide +kernel
theorem d_Room_reach_61 : decode k_Room_reach 61 = .ok (.if_icmp .lt (4), 3) := by decide +kernel
theorem d_Room_reach_64 : decode k_Room_reach 64 = .ok (.return_, 1) := by decide +kernel
theorem d_Room_reach_65 : decode k_Room_reach 65 = .ok (.aload_n 0, 1) := by decide +kernel
theorem d_Room_reach_66 : decode k_Room_reach 66 = .ok (.getfield 40, 3) := by decide +kernel
theorem d_Room_reach_69 : decode k_Room_reach 69 = .ok (.iload_n 3, 1) := by decide +kernel
theorem d_Room_reach_70 : decode k_Room_reach 70 = .ok (.iconst 1, 1) := by decide +kernel
theorem d_Room_reach_71 : decode k_Room_reach 71 = .ok (.bastore, 1) := by decide +kernel
theorem d_Room_reach_72 : decode k_Room_reach 72 = .ok (.aload_n 0, 1) := by decide +kernel
theorem d_Room_reach_73 : decode k_Room_reach 73 = .ok (.dup, 1) := by decide +kernel
theorem d_Room_reach_74 : decode k_Room_reach 74 = .ok (.getfield 53, 3) := by decide +kernel
theorem d_Room_reach_77 : decode k_Room_reach 77 = .ok (.iload_n 2, 1) := by decide +kernel
theorem d_Room_reach_78 : decode k_Room_reach 78 = .ok (.iconst 4, 1) := by decide +kernel
theorem d_Room_reach_79 : decode k_Room_reach 79 = .ok (.if_icmp .ne (7), 3) := by decide +kernel
theorem d_Room_reach_82 : decode k_Room_reach 82 = .ok (.iconst 2, 1) := by decide +kernel
theorem d_Room_reach_83 : decode k_Room_reach 83 = .ok (.goto (4), 3) := by decide +kernel
theorem d_Room_reach_86 : decode k_Room_reach 86 = .ok (.iconst 3, 1) := by decide +kernel
theorem d_Room_reach_87 : decode k_Room_reach 87 = .ok (.iadd, 1) := by decide +kernel
theorem d_Room_reach_88 : decode k_Room_reach 88 = .ok (.putfield 53, 3) := by decide +kernel
theorem d_Room_reach_91 : decode k_Room_reach 91 = .ok (.aload_n 0, 1) := by decide +kernel
theorem d_Room_reach_92 : decode k_Room_reach 92 = .ok (.getfield 44, 3) := by decide +kernel
theorem d_Room_reach_95 : decode k_Room_reach 95 = .ok (.aload_n 0, 1) := by decide +kernel
theorem d_Room_reach_96 : decode k_Room_reach 96 = .ok (.getfield 82, 3) := by decide +kernel
theorem d_Room_reach_99 : decode k_Room_reach 99 = .ok (.iload_n 3, 1) := by decide +kernel
theorem d_Room_reach_100 : decode k_Room_reach 100 = .ok (.iastore, 1) := by decide +kernel
theorem d_Room_reach_101 : decode k_Room_reach 101 = .ok (.aload_n 0, 1) := by decide +kernel
theorem d_Room_reach_102 : decode k_Room_reach 102 = .ok (.dup, 1) := by decide +kernel
theorem d_Room_reach_103 : decode k_Room_reach 103 = .ok (.getfield 82, 3) := by decide +kernel
theorem d_Room_reach_106 : decode k_Room_reach 106 = .ok (.iconst 1, 1) := by decide +kernel
theorem d_Room_reach_107 : decode k_Room_reach 107 = .ok (.iadd, 1) := by decide +kernel
theorem d_Room_reach_108 : decode k_Room_reach 108 = .ok (.putfield 82, 3) := by decide +kernel
theorem d_Room_reach_111 : decode k_Room_reach 111 = .ok (.return_, 1) := by decide +kernel
theorem d_Room_freeUnreached_0 : decode k_Room_freeUnreached 0 = .ok (.aload_n 0, 1) := by decide +kernel
theorem d_Room_freeUnreached_1 : decode k_Room_freeUnreached 1 = .ok (.iconst 0, 1) := by decide +kernel
theorem d_Room_freeUnreached_2 : decode k_Room_freeUnreached 2 = .ok (.putfield 50, 3) := by decide +kernel
theorem d_Room_freeUnreached_5 : decode k_Room_freeUnreached 5 = .ok (.iconst 0, 1) := by decide +kernel
theorem d_Room_freeUnreached_6 : decode k_Room_freeUnreached 6 = .ok (.istore_n 1, 1) := by decide +kernel
theorem d_Room_freeUnreached_7 : decode k_Room_freeUnreached 7 = .ok (.iload_n 1, 1) := by decide +kernel
theorem d_Room_freeUnreached_8 : decode k_Room_freeUnreached 8 = .ok (.aload_n 0, 1) := by decide +kernel
theorem d_Room_freeUnreached_9 : decode k_Room_freeUnreached 9 = .ok (.getfield 27, 3) := by decide +kernel
theorem d_Room_freeUnreached_12 : decode k_Room_freeUnreached 12 = .ok (.if_icmp .ge (56), 3) := by decide +kernel
theorem d_Room_freeUnreached_15 : decode k_Room_freeUnreached 15 = .ok (.aload_n 0, 1) := by decide +kernel
theorem d_Room_freeUnreached_16 : decode k_Room_freeUnreached 16 = .ok (.getfield 40, 3) := by decide +kernel
theorem d_Room_freeUnreached_19 : decode k_Room_freeUnreached 19 = .ok (.iload_n 1, 1) := by decide +kernel
theorem d_Room_freeUnreached_20 : decode k_Room_freeUnreached 20 = .ok (.baload, 1) := by decide +kernel
theorem d_Room_freeUnreached_21 : decode k_Room_freeUnreached 21 = .ok (.ifCond .ne (34), 3) := by decide +kernel
theorem d_Room_freeUnreached_24 : decode k_Room_freeUnreached 24 = .ok (.aload_n 0, 1) := by decide +kernel
theorem d_Room_freeUnreached_25 : decode k_Room_freeUnreached 25 = .ok (.getfield 50, 3) := by decide +kernel
theorem d_Room_freeUnreached_28 : decode k_Room_freeUnreached 28 = .ok (.aload_n 0, 1) := by decide +kernel
theorem d_Room_freeUnreached_29 : decode k_Room_freeUnreached 29 = .ok (.getfield 27, 3) := by decide +kernel
theorem d_Room_freeUnreached_32 : decode k_Room_freeUnreached 32 = .ok (.if_icmp .ge (23), 3) := by decide +kernel
theorem d_Room_freeUnreached_35 : decode k_Room_freeUnreached 35 = .ok (.aload_n 0, 1) := by decide +kernel
theorem d_Room_freeUnreached_36 : decode k_Room_freeUnreached 36 = .ok (.getfield 47, 3) := by decide +kernel
theorem d_Room_freeUnreached_39 : decode k_Room_freeUnreached 39 = .ok (.aload_n 0, 1) := by decide +kernel
theorem d_Room_freeUnreached_40 : decode k_Room_freeUnreached 40 = .ok (.getfield 50, 3) := by decide +kernel
theorem d_Room_freeUnreached_43 : decode k_Room_freeUnreached 43 = .ok (.iload_n 1, 1) := by decide +kernel
theorem d_Room_freeUnreached_44 : decode k_Room_freeUnreached 44 = .ok (.iastore, 1) := by decide +kernel
theorem d_Room_freeUnreached_45 : decode k_Room_freeUnreached 45 = .ok (.aload_n 0, 1) := by decide +kernel
theorem d_Room_freeUnreached_46 : decode k_Room_freeUnreached 46 = .ok (.dup, 1) := by decide +kernel
theorem d_Room_freeUnreached_47 : decode k_Room_freeUnreached 47 = .ok (.getfield 50, 3) := by decide +kernel
theorem d_Room_freeUnreached_50 : decode k_Room_freeUnreached 50 = .ok (.iconst 1, 1) := by decide +kernel
theorem d_Room_freeUnreached_51 : decode k_Room_freeUnreached 51 = .ok (.iadd, 1) := by decide +kernel
theorem d_Room_freeUnreached_52 : decode k_Room_freeUnreached 52 = .ok (.putfield 50, 3) := by decide +kernel
theorem d_Room_freeUnreached_55 : decode k_Room_freeUnreached 55 = .ok (.aload_n 0, 1) := by decide +kernel
theorem d_Room_freeUnreached_56 : decode k_Room_freeUnreached 56 = .ok (.getfield 40, 3) := by decide +kernel
theorem d_Room_freeUnreached_59 : decode k_Room_freeUnreached 59 = .ok (.iload_n 1, 1) := by decide +kernel
theorem d_Room_freeUnreached_60 : decode k_Room_freeUnreached 60 = .ok (.iconst 0, 1) := by decide +kernel
theorem d_Room_freeUnreached_61 : decode k_Room_freeUnreached 61 = .ok (.bastore, 1) := by decide +kernel
theorem d_Room_freeUnreached_62 : decode k_Room_freeUnreached 62 = .ok (.iinc 1 1, 3) := by decide +kernel
theorem d_Room_freeUnreached_65 : decode k_Room_freeUnreached 65 = .ok (.goto (-58), 3) := by decide +kernel
theorem d_Room_freeUnreached_68 : decode k_Room_freeUnreached 68 = .ok (.return_, 1) := by decide +kernel
theorem d_Room_make_0 : decode k_Room_make 0 = .ok (.aload_n 0, 1) := by decide +kernel
theorem d_Room_make_1 : decode k_Room_make 1 = .ok (.getfield 50, 3) := by decide +kernel
theorem d_Room_make_4 : decode k_Room_make 4 = .ok (.iconst 1, 1) := by decide +kernel
theorem d_Room_make_5 : decode k_Room_make 5 = .ok (.if_icmp .lt (14), 3) := by decide +kernel
theorem d_Room_make_8 : decode k_Room_make 8 = .ok (.aload_n 0, 1) := by decide +kernel
theorem d_Room_make_9 : decode k_Room_make 9 = .ok (.getfield 50, 3) := by decide +kernel
theorem d_Room_make_12 : decode k_Room_make 12 = .ok (.aload_n 0, 1) := by decide +kernel
theorem d_Room_make_13 : decode k_Room_make 13 = .ok (.getfield 27, 3) := by decide +kernel
theorem d_Room_make_16 : decode k_Room_make 16 = .ok (.if_icmp .le (5), 3) := by decide +kernel
theorem d_Room_make_19 : decode k_Room_make 19 = .ok (.iconst 2, 1) := by decide +kernel
theorem d_Room_make_20 : decode k_Room_make 20 = .ok (.ireturn, 1) := by decide +kernel
theorem d_Room_make_21 : decode k_Room_make 21 = .ok (.aload_n 0, 1) := by decide +kernel
theorem d_Room_make_22 : decode k_Room_make 22 = .ok (.dup, 1) := by decide +kernel
theorem d_Room_make_23 : decode k_Room_make 23 = .ok (.getfield 50, 3) := by decide +kernel
theorem d_Room_make_26 : decode k_Room_make 26 = .ok (.iconst 1, 1) := by decide +kernel
theorem d_Room_make_27 : decode k_Room_make 27 = .ok (.isub, 1) := by decide +kernel
theorem d_Room_make_28 : decode k_Room_make 28 = .ok (.putfield 50, 3) := by decide +kernel
theorem d_Room_make_31 : decode k_Room_make 31 = .ok (.aload_n 0, 1) := by decide +kernel
theorem d_Room_make_32 : decode k_Room_make 32 = .ok (.getfield 47, 3) := by decide +kernel
theorem d_Room_make_35 : decode k_Room_make 35 = .ok (.aload_n 0, 1) := by decide +kernel
theorem d_Room_make_36 : decode k_Room_make 36 = .ok (.getfield 50, 3) := by decide +kernel
theorem d_Room_make_39 : decode k_Room_make 39 = .ok (.iaload, 1) := by decide +kernel
theorem d_Room_make_40 : decode k_Room_make 40 = .ok (.istore 5, 2) := by decide +kernel
theorem d_Room_make_42 : decode k_Room_make 42 = .ok (.iload 5, 2) := by decide +kernel
theorem d_Room_make_44 : decode k_Room_make 44 = .ok (.ifCond .lt (12), 3) := by decide +kernel
theorem d_Room_make_47 : decode k_Room_make 47 = .ok (.iload 5, 2) := by decide +kernel
theorem d_Room_make_49 : decode k_Room_make 49 = .ok (.aload_n 0, 1) := by decide +kernel
theorem d_Room_make_50 : decode k_Room_make 50 = .ok (.getfield 27, 3) := by decide +kernel
theorem d_Room_make_53 : decode k_Room_make 53 = .ok (.if_icmp .lt (5), 3) := by decide +kernel
theorem d_Room_make_56 : decode k_Room_make 56 = .ok (.iconst 2, 1) := by decide +kernel
theorem d_Room_make_57 : decode k_Room_make 57 = .ok (.ireturn, 1) := by decide +kernel
theorem d_Room_make_58 : decode k_Room_make 58 = .ok (.aload_n 0, 1) := by decide +kernel
theorem d_Room_make_59 : decode k_Room_make 59 = .ok (.getfield 30, 3) := by decide +kernel
theorem d_Room_make_62 : decode k_Room_make 62 = .ok (.iload 5, 2) := by decide +kernel
theorem d_Room_make_64 : decode k_Room_make 64 = .ok (.iload_n 2, 1) := by decide +kernel
theorem d_Room_make_65 : decode k_Room_make 65 = .ok (.iastore, 1) := by decide +kernel
theorem d_Room_make_66 : decode k_Room_make 66 = .ok (.aload_n 0, 1) := by decide +kernel
theorem d_Room_make_67 : decode k_Room_make 67 = .ok (.getfield 34, 3) := by decide +kernel
theorem d_Room_make_70 : decode k_Room_make 70 = .ok (.iload 5, 2) := by decide +kernel
theorem d_Room_make_72 : decode k_Room_make 72 = .ok (.iload_n 3, 1) := by decide +kernel
theorem d_Room_make_73 : decode k_Room_make 73 = .ok (.iastore, 1) := by decide +kernel
theorem d_Room_make_74 : decode k_Room_make 74 = .ok (.aload_n 0, 1) := by decide +kernel
theorem d_Room_make_75 : decode k_Room_make 75 = .ok (.getfield 37, 3) := by decide +kernel
theorem d_Room_make_78 : decode k_Room_make 78 = .ok (.iload 5, 2) := by decide +kernel
theorem d_Room_make_80 : decode k_Room_make 80 = .ok (.iload 4, 2) := by decide +kernel
theorem d_Room_make_82 : decode k_Room_make 82 = .ok (.iastore, 1) := by decide +kernel
theorem d_Room_make_83 : decode k_Room_make 83 = .ok (.iload 5, 2) := by decide +kernel
theorem d_Room_make_85 : decode k_Room_make 85 = .ok (.iconst 3, 1) := by decide +kernel
theorem d_Room_make_86 : decode k_Room_make 86 = .ok (.ishl, 1) := by decide +kernel
theorem d_Room_make_87 : decode k_Room_make 87 = .ok (.iload_n 1, 1) := by decide +kernel
theorem d_Room_make_88 : decode k_Room_make 88 = .ok (.ior, 1) := by decide +kernel
theorem d_Room_make_89 : decode k_Room_make 89 = .ok (.ireturn, 1) := by decide +kernel
theorem d_Room_isHere_0 : decode k_Room_isHere 0 = .ok (.iload_n 1, 1) := by decide +kernel
theorem d_Room_isHere_1 : decode k_Room_isHere 1 = .ok (.bipush 7, 2) := by decide +kernel
theorem d_Room_isHere_3 : decode k_Room_isHere 3 = .ok (.iand, 1) := by decide +kernel
theorem d_Room_isHere_4 : decode k_Room_isHere 4 = .ok (.istore_n 2, 1) := by decide +kernel
theorem d_Room_isHere_5 : decode k_Room_isHere 5 = .ok (.iload_n 1, 1) := by decide +kernel
theorem d_Room_isHere_6 : decode k_Room_isHere 6 = .ok (.iconst 3, 1) := by decide +kernel
theorem d_Room_isHere_7 : decode k_Room_isHere 7 = .ok (.ishr, 1) := by decide +kernel
theorem d_Room_isHere_8 : decode k_Room_isHere 8 = .ok (.istore_n 3, 1) := by decide +kernel
theorem d_Room_isHere_9 : decode k_Room_isHere 9 = .ok (.iload_n 2, 1) := by decide +kernel
theorem d_Room_isHere_10 : decode k_Room_isHere 10 = .ok (.iconst 4, 1) := by decide +kernel
theorem d_Room_isHere_11 : decode k_Room_isHere 11 = .ok (.if_icmp .eq (8), 3) := by decide +kernel
theorem d_Room_isHere_14 : decode k_Room_isHere 14 = .ok (.iload_n 2, 1) := by decide +kernel
theorem d_Room_isHere_15 : decode k_Room_isHere 15 = .ok (.iconst 5, 1) := by decide +kernel
theorem d_Room_isHere_16 : decode k_Room_isHere 16 = .ok (.if_icmp .ne (19), 3) := by decide +kernel
theorem d_Room_isHere_19 : decode k_Room_isHere 19 = .ok (.iload_n 3, 1) := by decide +kernel
theorem d_Room_isHere_20 : decode k_Room_isHere 20 = .ok (.ifCond .lt (15), 3) := by decide +kernel
theorem d_Room_isHere_23 : decode k_Room_isHere 23 = .ok (.iload_n 3, 1) := by decide +kernel
theorem d_Room_isHere_24 : decode k_Room_isHere 24 = .ok (.aload_n 0, 1) := by decide +kernel
theorem d_Room_isHere_25 : decode k_Room_isHere 25 = .ok (.getfield 27, 3) := by decide +kernel
theorem d_Room_isHere_28 : decode k_Room_isHere 28 = .ok (.if_icmp .ge (7), 3) := by decide +kernel
theorem d_Room_isHere_31 : decode k_Room_isHere 31 = .ok (.iconst 1, 1) := by decide +kernel
theorem d_Room_isHere_32 : decode k_Room_isHere 32 = .ok (.goto (4), 3) := by decide +kernel
theorem d_Room_isHere_35 : decode k_Room_isHere 35 = .ok (.iconst 0, 1) := by decide +kernel
theorem d_Room_isHere_36 : decode k_Room_isHere 36 = .ok (.ireturn, 1) := by decide +kernel
theorem d_Machine_begin_0 : decode k_Machine_begin 0 = .ok (.aload_n 0, 1) := by decide +kernel
theorem d_Machine_begin_1 : decode k_Machine_begin 1 = .ok (.getfield 23, 3) := by decide +kernel
theorem d_Machine_begin_4 : decode k_Machine_begin 4 = .ok (.invokevirtual 57, 3) := by decide +kernel
theorem d_Machine_begin_7 : decode k_Machine_begin 7 = .ok (.istore_n 1, 1) := by decide +kernel
theorem d_Machine_begin_8 : decode k_Machine_begin 8 = .ok (.iload_n 1, 1) := by decide +kernel
theorem d_Machine_begin_9 : decode k_Machine_begin 9 = .ok (.iconst 2, 1) := by decide +kernel
theorem d_Machine_begin_10 : decode k_Machine_begin 10 = .ok (.if_icmp .ne (5), 3) := by decide +kernel
theorem d_Machine_begin_13 : decode k_Machine_begin 13 = .ok (.iconst 2, 1) := by decide +kernel
theorem d_Machine_begin_14 : decode k_Machine_begin 14 = .ok (.ireturn, 1) := by decide +kernel
theorem d_Machine_begin_15 : decode k_Machine_begin 15 = .ok (.aload_n 0, 1) := by decide +kernel
theorem d_Machine_begin_16 : decode k_Machine_begin 16 = .ok (.iconst 1, 1) := by decide +kernel
theorem d_Machine_begin_17 : decode k_Machine_begin 17 = .ok (.putfield 39, 3) := by decide +kernel
theorem d_Machine_begin_20 : decode k_Machine_begin 20 = .ok (.iload_n 1, 1) := by decide +kernel
theorem d_Machine_begin_21 : decode k_Machine_begin 21 = .ok (.ifCond .eq (5), 3) := by decide +kernel
theorem d_Machine_begin_24 : decode k_Machine_begin 24 = .ok (.iload_n 1, 1) := by decide +kernel
theorem d_Machine_begin_25 : decode k_Machine_begin 25 = .ok (.ireturn, 1) := by decide +kernel
theorem d_Machine_begin_26 : decode k_Machine_begin 26 = .ok (.aload_n 0, 1) := by decide +kernel
theorem d_Machine_begin_27 : decode k_Machine_begin 27 = .ok (.iconst 1, 1) := by decide +kernel
theorem d_Machine_begin_28 : decode k_Machine_begin 28 = .ok (.putfield 31, 3) := by decide +kernel
theorem d_Machine_begin_31 : decode k_Machine_begin 31 = .ok (.aload_n 0, 1) := by decide +kernel
theorem d_Machine_begin_32 : decode k_Machine_begin 32 = .ok (.aload_n 0, 1) := by decide +kernel
theorem d_Machine_begin_33 : decode k_Machine_begin 33 = .ok (.getfield 23, 3) := by decide +kernel
theorem d_Machine_begin_36 : decode k_Machine_begin 36 = .ok (.getfield 62, 3) := by decide +kernel
theorem d_Machine_begin_39 : decode k_Machine_begin 39 = .ok (.iconst 2, 1) := by decide +kernel
theorem d_Machine_begin_40 : decode k_Machine_begin 40 = .ok (.invokevirtual 67, 3) := by decide +kernel
theorem d_Machine_begin_43 : decode k_Machine_begin 43 = .ok (.ireturn, 1) := by decide +kernel
theorem d_Machine_endForm_0 : decode k_Machine_endForm 0 = .ok (.aload_n 0, 1) := by decide +kernel
theorem d_Machine_endForm_1 : decode k_Machine_endForm 1 = .ok (.iconst 0, 1) := by decide +kernel
theorem d_Machine_endForm_2 : decode k_Machine_endForm 2 = .ok (.putfield 31, 3) := by decide +kernel
theorem d_Machine_endForm_5 : decode k_Machine_endForm 5 = .ok (.aload_n 0, 1) := by decide +kernel
theorem d_Machine_endForm_6 : decode k_Machine_endForm 6 = .ok (.getfield 9, 3) := by decide +kernel
theorem d_Machine_endForm_9 : decode k_Machine_endForm 9 = .ok (.iconst 2, 1) := by decide +kernel
theorem d_Machine_endForm_10 : decode k_Machine_endForm 10 = .ok (.putfield 71, 3) := by decide +kernel
theorem d_Machine_endForm_13 : decode k_Machine_endForm 13 = .ok (.aload_n 0, 1) := by decide +kernel
theorem d_Machine_endForm_14 : decode k_Machine_endForm 14 = .ok (.getfield 9, 3) := by decide +kernel
theorem d_Machine_endForm_17 : decode k_Machine_endForm 17 = .ok (.iconst 2, 1) := by decide +kernel
theorem d_Machine_endForm_18 : decode k_Machine_endForm 18 = .ok (.putfield 74, 3) := by decide +kernel
theorem d_Machine_endForm_21 : decode k_Machine_endForm 21 = .ok (.aload_n 0, 1) := by decide +kernel
theorem d_Machine_endForm_22 : decode k_Machine_endForm 22 = .ok (.getfield 9, 3) := by decide +kernel
theorem d_Machine_endForm_25 : decode k_Machine_endForm 25 = .ok (.iconst 0, 1) := by decide +kernel
theorem d_Machine_endForm_26 : decode k_Machine_endForm 26 = .ok (.putfield 77, 3) := by decide +kernel
theorem d_Machine_endForm_29 : decode k_Machine_endForm 29 = .ok (.return_, 1) := by decide +kernel
theorem d_Machine_evaluateNext_0 : decode k_Machine_evaluateNext 0 = .ok (.aload_n 0, 1) := by decide +kernel
theorem d_Machine_evaluateNext_1 : decode k_Machine_evaluateNext 1 = .ok (.getfield 9, 3) := by decide +kernel
theorem d_Machine_evaluateNext_4 : decode k_Machine_evaluateNext 4 = .ok (.iload_n 1, 1) := by decide +kernel
theorem d_Machine_evaluateNext_5 : decode k_Machine_evaluateNext 5 = .ok (.putfield 71, 3) := by decide +kernel
theorem d_Machine_evaluateNext_8 : decode k_Machine_evaluateNext 8 = .ok (.aload_n 0, 1) := by decide +kernel
theorem d_Machine_evaluateNext_9 : decode k_Machine_evaluateNext 9 = .ok (.getfield 9, 3) := by decide +kernel
theorem d_Machine_evaluateNext_12 : decode k_Machine_evaluateNext 12 = .ok (.iload_n 2, 1) := by decide +kernel
theorem d_Machine_evaluateNext_13 : decode k_Machine_evaluateNext 13 = .ok (.putfield 74, 3) := by decide +kernel
theorem d_Machine_evaluateNext_16 : decode k_Machine_evaluateNext 16 = .ok (.aload_n 0, 1) := by decide +kernel
theorem d_Machine_evaluateNext_17 : decode k_Machine_evaluateNext 17 = .ok (.getfield 9, 3) := by decide +kernel
theorem d_Machine_evaluateNext_20 : decode k_Machine_evaluateNext 20 = .ok (.iconst 1, 1) := by decide +kernel
theorem d_Machine_evaluateNext_21 : decode k_Machine_evaluateNext 21 = .ok (.putfield 43, 3) := by decide +kernel
theorem d_Machine_evaluateNext_24 : decode k_Machine_evaluateNext 24 = .ok (.iconst 1, 1) := by decide +kernel
theorem d_Machine_evaluateNext_25 : decode k_Machine_evaluateNext 25 = .ok (.ireturn, 1) := by decide +kernel
theorem d_Machine_returnNext_0 : decode k_Machine_returnNext 0 = .ok (.aload_n 0, 1) := by decide +kernel
theorem d_Machine_returnNext_1 : decode k_Machine_returnNext 1 = .ok (.getfield 9, 3) := by decide +kernel
theorem d_Machine_returnNext_4 : decode k_Machine_returnNext 4 = .ok (.iload_n 1, 1) := by decide +kernel
theorem d_Machine_returnNext_5 : decode k_Machine_returnNext 5 = .ok (.putfield 71, 3) := by decide +kernel
theorem d_Machine_returnNext_8 : decode k_Machine_returnNext 8 = .ok (.aload_n 0, 1) := by decide +kernel
theorem d_Machine_returnNext_9 : decode k_Machine_returnNext 9 = .ok (.getfield 9, 3) := by decide +kernel
theorem d_Machine_returnNext_12 : decode k_Machine_returnNext 12 = .ok (.iconst 0, 1) := by decide +kernel
theorem d_Machine_returnNext_13 : decode k_Machine_returnNext 13 = .ok (.putfield 43, 3) := by decide +kernel
theorem d_Machine_returnNext_16 : decode k_Machine_returnNext 16 = .ok (.iconst 1, 1) := by decide +kernel
theorem d_Machine_returnNext_17 : decode k_Machine_returnNext 17 = .ok (.ireturn, 1) := by decide +kernel
theorem d_Machine_evaluate_0 : decode k_Machine_evaluate 0 = .ok (.aload_n 0, 1) := by decide +kernel
theorem d_Machine_evaluate_1 : decode k_Machine_evaluate 1 = .ok (.getfield 9, 3) := by decide +kernel
theorem d_Machine_evaluate_4 : decode k_Machine_evaluate 4 = .ok (.getfield 71, 3) := by decide +kernel
theorem d_Machine_evaluate_7 : decode k_Machine_evaluate 7 = .ok (.invokestatic 80, 3) := by decide +kernel
theorem d_Machine_evaluate_10 : decode k_Machine_evaluate 10 = .ok (.ifCond .eq (8), 3) := by decide +kernel
theorem d_Machine_evaluate_13 : decode k_Machine_evaluate 13 = .ok (.aload_n 0, 1) := by decide +kernel
theorem d_Machine_evaluate_14 : decode k_Machine_evaluate 14 = .ok (.invokevirtual 84, 3) := by decide +kernel
theorem d_Machine_evaluate_17 : decode k_Machine_evaluate 17 = .ok (.ireturn, 1) := by decide +kernel
theorem d_Machine_evaluate_18 : decode k_Machine_evaluate 18 = .ok (.aload_n 0, 1) := by decide +kernel
theorem d_Machine_evaluate_19 : decode k_Machine_evaluate 19 = .ok (.getfield 9, 3) := by decide +kernel
theorem d_Machine_evaluate_22 : decode k_Machine_evaluate 22 = .ok (.getfield 71, 3) := by decide +kernel
theorem d_Machine_evaluate_25 : decode k_Machine_evaluate 25 = .ok (.invokestatic 87, 3) := by decide +kernel
theorem d_Machine_evaluate_28 : decode k_Machine_evaluate 28 = .ok (.ifCond .ne (15), 3) := by decide +kernel
theorem d_Machine_evaluate_31 : decode k_Machine_evaluate 31 = .ok (.aload_n 0, 1) := by decide +kernel
theorem d_Machine_evaluate_32 : decode k_Machine_evaluate 32 = .ok (.aload_n 0, 1) := by decide +kernel
theorem d_Machine_evaluate_33 : decode k_Machine_evaluate 33 = .ok (.getfield 9, 3) := by decide +kernel
theorem d_Machine_evaluate_36 : decode k_Machine_evaluate 36 = .ok (.getfield 71, 3) := by decide +kernel
theorem d_Machine_evaluate_39 : decode k_Machine_evaluate 39 = .ok (.invokevirtual 90, 3) := by decide +kernel
theorem d_Machine_evaluate_42 : decode k_Machine_evaluate 42 = .ok (.ireturn, 1) := by decide +kernel
theorem d_Machine_evaluate_43 : decode k_Machine_evaluate 43 = .ok (.aload_n 0, 1) := by decide +kernel
theorem d_Machine_evaluate_44 : decode k_Machine_evaluate 44 = .ok (.getfield 15, 3) := by decide +kernel
theorem d_Machine_evaluate_47 : decode k_Machine_evaluate 47 = .ok (.aload_n 0, 1) := by decide +kernel
theorem d_Machine_evaluate_48 : decode k_Machine_evaluate 48 = .ok (.getfield 9, 3) := by decide +kernel
theorem d_Machine_evaluate_51 : decode k_Machine_evaluate 51 = .ok (.getfield 71, 3) := by decide +kernel
theorem d_Machine_evaluate_54 : decode k_Machine_evaluate 54 = .ok (.invokevirtual 94, 3) := by decide +kernel
theorem d_Machine_evaluate_57 : decode k_Machine_evaluate 57 = .ok (.istore_n 1, 1) := by decide +kernel
theorem d_Machine_evaluate_58 : decode k_Machine_evaluate 58 = .ok (.iload_n 1, 1) := by decide +kernel
theorem d_Machine_evaluate_59 : decode k_Machine_evaluate 59 = .ok (.invokestatic 80, 3) := by decide +kernel
theorem d_Machine_evaluate_62 : decode k_Machine_evaluate 62 = .ok (.ifCond .eq (10), 3) := by decide +kernel
theorem d_Machine_evaluate_65 : decode k_Machine_evaluate 65 = .ok (.iload_n 1, 1) := by decide +kernel
theorem d_Machine_evaluate_66 : decode k_Machine_evaluate 66 = .ok (.invokestatic 99, 3) := by decide +kernel
theorem d_Machine_evaluate_69 : decode k_Machine_evaluate 69 = .ok (.goto (4), 3) := by decide +kernel
theorem d_Machine_evaluate_72 : decode k_Machine_evaluate 72 = .ok (.iconst (-1), 1) := by decide +kernel
theorem d_Machine_evaluate_73 : decode k_Machine_evaluate 73 = .ok (.tableswitch (70) (10) (14) #[35, 40, 45, 50, 57], 35) := by decide +kernel
theorem d_Machine_evaluate_108 : decode k_Machine_evaluate 108 = .ok (.aload_n 0, 1) := by decide +kernel
theorem d_Machine_evaluate_109 : decode k_Machine_evaluate 109 = .ok (.invokevirtual 102, 3) := by decide +kernel
theorem d_Machine_evaluate_112 : decode k_Machine_evaluate 112 = .ok (.ireturn, 1) := by decide +kernel
theorem d_Machine_evaluate_113 : decode k_Machine_evaluate 113 = .ok (.aload_n 0, 1) := by decide +kernel
theorem d_Machine_evaluate_114 : decode k_Machine_evaluate 114 = .ok (.invokevirtual 105, 3) := by decide +kernel
theorem d_Machine_evaluate_117 : decode k_Machine_evaluate 117 = .ok (.ireturn, 1) := by decide +kernel
theorem d_Machine_evaluate_118 : decode k_Machine_evaluate 118 = .ok (.aload_n 0, 1) := by decide +kernel
theorem d_Machine_evaluate_119 : decode k_Machine_evaluate 119 = .ok (.invokevirtual 108, 3) := by decide +kernel
theorem d_Machine_evaluate_122 : decode k_Machine_evaluate 122 = .ok (.ireturn, 1) := by decide +kernel
theorem d_Machine_evaluate_123 : decode k_Machine_evaluate 123 = .ok (.aload_n 0, 1) := by decide +kernel
theorem d_Machine_evaluate_124 : decode k_Machine_evaluate 124 = .ok (.iconst 2, 1) := by decide +kernel
theorem d_Machine_evaluate_125 : decode k_Machine_evaluate 125 = .ok (.iconst 2, 1) := by decide +kernel
theorem d_Machine_evaluate_126 : decode k_Machine_evaluate 126 = .ok (.invokevirtual 111, 3) := by decide +kernel
theorem d_Machine_evaluate_129 : decode k_Machine_evaluate 129 = .ok (.ireturn, 1) := by decide +kernel
theorem d_Machine_evaluate_130 : decode k_Machine_evaluate 130 = .ok (.aload_n 0, 1) := by decide +kernel
theorem d_Machine_evaluate_131 : decode k_Machine_evaluate 131 = .ok (.iconst 3, 1) := by decide +kernel
theorem d_Machine_evaluate_132 : decode k_Machine_evaluate 132 = .ok (.aload_n 0, 1) := by decide +kernel
theorem d_Machine_evaluate_133 : decode k_Machine_evaluate 133 = .ok (.getfield 9, 3) := by decide +kernel
theorem d_Machine_evaluate_136 : decode k_Machine_evaluate 136 = .ok (.getfield 74, 3) := by decide +kernel
theorem d_Machine_evaluate_139 : decode k_Machine_evaluate 139 = .ok (.invokevirtual 111, 3) := by decide +kernel
theorem d_Machine_evaluate_142 : decode k_Machine_evaluate 142 = .ok (.ireturn, 1) := by decide +kernel
theorem d_Machine_evaluate_143 : decode k_Machine_evaluate 143 = .ok (.aload_n 0, 1) := by decide +kernel
theorem d_Machine_evaluate_144 : decode k_Machine_evaluate 144 = .ok (.iconst 4, 1) := by decide +kernel
theorem d_Machine_evaluate_145 : decode k_Machine_evaluate 145 = .ok (.aload_n 0, 1) := by decide +kernel
theorem d_Machine_evaluate_146 : decode k_Machine_evaluate 146 = .ok (.getfield 15, 3) := by decide +kernel
theorem d_Machine_evaluate_149 : decode k_Machine_evaluate 149 = .ok (.aload_n 0, 1) := by decide +kernel
theorem d_Machine_evaluate_150 : decode k_Machine_evaluate 150 = .ok (.getfield 9, 3) := by decide +kernel
theorem d_Machine_evaluate_153 : decode k_Machine_evaluate 153 = .ok (.getfield 71, 3) := by decide +kernel
theorem d_Machine_evaluate_156 : decode k_Machine_evaluate 156 = .ok (.invokevirtual 114, 3) := by decide +kernel
theorem d_Machine_evaluate_159 : decode k_Machine_evaluate 159 = .ok (.aload_n 0, 1) := by decide +kernel
theorem d_Machine_evaluate_160 : decode k_Machine_evaluate 160 = .ok (.getfield 9, 3) := by decide +kernel
theorem d_Machine_evaluate_163 : decode k_Machine_evaluate 163 = .ok (.getfield 74, 3) := by decide +kernel
theorem d_Machine_evaluate_166 : decode k_Machine_evaluate 166 = .ok (.iload_n 1, 1) := by decide +kernel
theorem d_Machine_evaluate_167 : decode k_Machine_evaluate 167 = .ok (.invokevirtual 117, 3) := by decide +kernel
theorem d_Machine_evaluate_170 : decode k_Machine_evaluate 170 = .ok (.ireturn, 1) := by decide +kernel
theorem d_Machine_evaluateSymbol_0 : decode k_Machine_evaluateSymbol 0 = .ok (.aload_n 0, 1) := by decide +kernel
theorem d_Machine_evaluateSymbol_1 : decode k_Machine_evaluateSymbol 1 = .ok (.getfield 15, 3) := by decide +kernel
theorem d_Machine_evaluateSymbol_4 : decode k_Machine_evaluateSymbol 4 = .ok (.aload_n 0, 1) := by decide +kernel
theorem d_Machine_evaluateSymbol_5 : decode k_Machine_evaluateSymbol 5 = .ok (.getfield 9, 3) := by decide +kernel
theorem d_Machine_evaluateSymbol_8 : decode k_Machine_evaluateSymbol 8 = .ok (.getfield 71, 3) := by decide +kernel
theorem d_Machine_evaluateSymbol_11 : decode k_Machine_evaluateSymbol 11 = .ok (.aload_n 0, 1) := by decide +kernel
theorem d_Machine_evaluateSymbol_12 : decode k_Machine_evaluateSymbol 12 = .ok (.getfield 9, 3) := by decide +kernel
theorem d_Machine_evaluateSymbol_15 : decode k_Machine_evaluateSymbol 15 = .ok (.getfield 74, 3) := by decide +kernel
theorem d_Machine_evaluateSymbol_18 : decode k_Machine_evaluateSymbol 18 = .ok (.invokevirtual 121, 3) := by decide +kernel
theorem d_Machine_evaluateSymbol_21 : decode k_Machine_evaluateSymbol 21 = .ok (.istore_n 1, 1) := by decide +kernel
theorem d_Machine_evaluateSymbol_22 : decode k_Machine_evaluateSymbol 22 = .ok (.iload_n 1, 1) := by decide +kernel
theorem d_Machine_evaluateSymbol_23 : decode k_Machine_evaluateSymbol 23 = .ok (.iconst 2, 1) := by decide +kernel
theorem d_Machine_evaluateSymbol_24 : decode k_Machine_evaluateSymbol 24 = .ok (.if_icmp .eq (16), 3) := by decide +kernel
theorem d_Machine_evaluateSymbol_27 : decode k_Machine_evaluateSymbol 27 = .ok (.aload_n 0, 1) := by decide +kernel
theorem d_Machine_evaluateSymbol_28 : decode k_Machine_evaluateSymbol 28 = .ok (.aload_n 0, 1) := by decide +kernel
theorem d_Machine_evaluateSymbol_29 : decode k_Machine_evaluateSymbol 29 = .ok (.getfield 15, 3) := by decide +kernel
theorem d_Machine_evaluateSymbol_32 : decode k_Machine_evaluateSymbol 32 = .ok (.iload_n 1, 1) := by decide +kernel
theorem d_Machine_evaluateSymbol_33 : decode k_Machine_evaluateSymbol 33 = .ok (.invokevirtual 114, 3) := by decide +kernel
theorem d_Machine_evaluateSymbol_36 : decode k_Machine_evaluateSymbol 36 = .ok (.invokevirtual 90, 3) := by decide +kernel
theorem d_Machine_evaluateSymbol_39 : decode k_Machine_evaluateSymbol 39 = .ok (.ireturn, 1) := by decide +kernel
theorem d_Machine_evaluateSymbol_40 : decode k_Machine_evaluateSymbol 40 = .ok (.aload_n 0, 1) := by decide +kernel
theorem d_Machine_evaluateSymbol_41 : decode k_Machine_evaluateSymbol 41 = .ok (.getfield 19, 3) := by decide +kernel
theorem d_Machine_evaluateSymbol_44 : decode k_Machine_evaluateSymbol 44 = .ok (.aload_n 0, 1) := by decide +kernel
theorem d_Machine_evaluateSymbol_45 : decode k_Machine_evaluateSymbol 45 = .ok (.getfield 9, 3) := by decide +kernel
theorem d_Machine_evaluateSymbol_48 : decode k_Machine_evaluateSymbol 48 = .ok (.getfield 71, 3) := by decide +kernel
theorem d_Machine_evaluateSymbol_51 : decode k_Machine_evaluateSymbol 51 = .ok (.invokestatic 99, 3) := by decide +kernel
theorem d_Machine_evaluateSymbol_54 : decode k_Machine_evaluateSymbol 54 = .ok (.invokevirtual 124, 3) := by decide +kernel
theorem d_Machine_evaluateSymbol_57 : decode k_Machine_evaluateSymbol 57 = .ok (.istore_n 2, 1) := by decide +kernel
theorem d_Machine_evaluateSymbol_58 : decode k_Machine_evaluateSymbol 58 = .ok (.iload_n 2, 1) := by decide +kernel
theorem d_Machine_evaluateSymbol_59 : decode k_Machine_evaluateSymbol 59 = .ok (.bipush 6, 2) := by decide +kernel
theorem d_Machine_evaluateSymbol_61 : decode k_Machine_evaluateSymbol 61 = .ok (.if_icmp .ne (8), 3) := by decide +kernel
theorem d_Machine_evaluateSymbol_64 : decode k_Machine_evaluateSymbol 64 = .ok (.bipush (-2), 2) := by decide +kernel
theorem d_Machine_evaluateSymbol_66 : decode k_Machine_evaluateSymbol 66 = .ok (.goto (8), 3) := by decide +kernel
theorem d_Machine_evaluateSymbol_69 : decode k_Machine_evaluateSymbol 69 = .ok (.aload_n 0, 1) := by decide +kernel
theorem d_Machine_evaluateSymbol_70 : decode k_Machine_evaluateSymbol 70 = .ok (.iload_n 2, 1) := by decide +kernel
theorem d_Machine_evaluateSymbol_71 : decode k_Machine_evaluateSymbol 71 = .ok (.invokevirtual 90, 3) := by decide +kernel
theorem d_Machine_evaluateSymbol_74 : decode k_Machine_evaluateSymbol 74 = .ok (.ireturn, 1) := by decide +kernel
theorem d_Machine_evaluateUnder_0 : decode k_Machine_evaluateUnder 0 = .ok (.aload_n 0, 1) := by decide +kernel
theorem d_Machine_evaluateUnder_1 : decode k_Machine_evaluateUnder 1 = .ok (.getfield 9, 3) := by decide +kernel
theorem d_Machine_evaluateUnder_4 : decode k_Machine_evaluateUnder 4 = .ok (.iload_n 1, 1) := by decide +kernel
theorem d_Machine_evaluateUnder_5 : decode k_Machine_evaluateUnder 5 = .ok (.iload_n 2, 1) := by decide +kernel
theorem d_Machine_evaluateUnder_6 : decode k_Machine_evaluateUnder 6 = .ok (.iload_n 3, 1) := by decide +kernel
theorem d_Machine_evaluateUnder_7 : decode k_Machine_evaluateUnder 7 = .ok (.invokevirtual 129, 3) := by decide +kernel
theorem d_Machine_evaluateUnder_10 : decode k_Machine_evaluateUnder 10 = .ok (.ifCond .ne (6), 3) := by decide +kernel
theorem d_Machine_evaluateUnder_13 : decode k_Machine_evaluateUnder 13 = .ok (.bipush (-6), 2) := by decide +kernel
theorem d_Machine_evaluateUnder_15 : decode k_Machine_evaluateUnder 15 = .ok (.ireturn, 1) := by decide +kernel
theorem d_Machine_evaluateUnder_16 : decode k_Machine_evaluateUnder 16 = .ok (.aload_n 0, 1) := by decide +kernel
theorem d_Machine_evaluateUnder_17 : decode k_Machine_evaluateUnder 17 = .ok (.iload 4, 2) := by decide +kernel
theorem d_Machine_evaluateUnder_19 : decode k_Machine_evaluateUnder 19 = .ok (.aload_n 0, 1) := by decide +kernel
theorem d_Machine_evaluateUnder_20 : decode k_Machine_evaluateUnder 20 = .ok (.getfield 9, 3) := by decide +kernel
theorem d_Machine_evaluateUnder_23 : decode k_Machine_evaluateUnder 23 = .ok (.getfield 74, 3) := by decide +kernel
theorem d_Machine_evaluateUnder_26 : decode k_Machine_evaluateUnder 26 = .ok (.invokevirtual 67, 3) := by decide +kernel
theorem d_Machine_evaluateUnder_29 : decode k_Machine_evaluateUnder 29 = .ok (.ireturn, 1) := by decide +kernel
theorem d_Machine_part_0 : decode k_Machine_part 0 = .ok (.aload_n 0, 1) := by decide +kernel
theorem d_Machine_part_1 : decode k_Machine_part 1 = .ok (.getfield 15, 3) := by decide +kernel
theorem d_Machine_part_4 : decode k_Machine_part 4 = .ok (.aload_n 0, 1) := by decide +kernel
theorem d_Machine_part_5 : decode k_Machine_part 5 = .ok (.getfield 15, 3) := by decide +kernel
theorem d_Machine_part_8 : decode k_Machine_part 8 = .ok (.aload_n 0, 1) := by decide +kernel
theorem d_Machine_part_9 : decode k_Machine_part 9 = .ok (.getfield 9, 3) := by decide +kernel
theorem d_Machine_part_12 : decode k_Machine_part 12 = .ok (.getfield 71, 3) := by decide +kernel
theorem d_Machine_part_15 : decode k_Machine_part 15 = .ok (.iload_n 1, 1) := by decide +kernel
theorem d_Machine_part_16 : decode k_Machine_part 16 = .ok (.invokevirtual 133, 3) := by decide +kernel
theorem d_Machine_part_19 : decode k_Machine_part 19 = .ok (.invokevirtual 94, 3) := by decide +kernel
theorem d_Machine_part_22 : decode k_Machine_part 22 = .ok (.ireturn, 1) := by decide +kernel
theorem d_Machine_evaluateQuote_0 : decode k_Machine_evaluateQuote 0 = .ok (.aload_n 0, 1) := by decide +kernel
theorem d_Machine_evaluateQuote_1 : decode k_Machine_evaluateQuote 1 = .ok (.getfield 15, 3) := by decide +kernel
theorem d_Machine_evaluateQuote_4 : decode k_Machine_evaluateQuote 4 = .ok (.aload_n 0, 1) := by decide +kernel
theorem d_Machine_evaluateQuote_5 : decode k_Machine_evaluateQuote 5 = .ok (.getfield 9, 3) := by decide +kernel
theorem d_Machine_evaluateQuote_8 : decode k_Machine_evaluateQuote 8 = .ok (.getfield 71, 3) := by decide +kernel
theorem d_Machine_evaluateQuote_11 : decode k_Machine_evaluateQuote 11 = .ok (.invokevirtual 136, 3) := by decide +kernel
theorem d_Machine_evaluateQuote_14 : decode k_Machine_evaluateQuote 14 = .ok (.iconst 2, 1) := by decide +kernel
theorem d_Machine_evaluateQuote_15 : decode k_Machine_evaluateQuote 15 = .ok (.if_icmp .ne (15), 3) := by decide +kernel
theorem d_Machine_evaluateQuote_18 : decode k_Machine_evaluateQuote 18 = .ok (.aload_n 0, 1) := by decide +kernel
theorem d_Machine_evaluateQuote_19 : decode k_Machine_evaluateQuote 19 = .ok (.aload_n 0, 1) := by decide +kernel
theorem d_Machine_evaluateQuote_20 : decode k_Machine_evaluateQuote 20 = .ok (.iconst 1, 1) := by decide +kernel
theorem d_Machine_evaluateQuote_21 : decode k_Machine_evaluateQuote 21 = .ok (.invokevirtual 139, 3) := by decide +kernel
theorem d_Machine_evaluateQuote_24 : decode k_Machine_evaluateQuote 24 = .ok (.invokevirtual 90, 3) := by decide +kernel
theorem d_Machine_evaluateQuote_27 : decode k_Machine_evaluateQuote 27 = .ok (.goto (5), 3) := by decide +kernel
theorem d_Machine_evaluateQuote_30 : decode k_Machine_evaluateQuote 30 = .ok (.bipush (-3), 2) := by decide +kernel
theorem d_Machine_evaluateQuote_32 : decode k_Machine_evaluateQuote 32 = .ok (.ireturn, 1) := by decide +kernel
theorem d_Machine_evaluateIf_0 : decode k_Machine_evaluateIf 0 = .ok (.aload_n 0, 1) := by decide +kernel
theorem d_Machine_evaluateIf_1 : decode k_Machine_evaluateIf 1 = .ok (.getfield 15, 3) := by decide +kernel
theorem d_Machine_evaluateIf_4 : decode k_Machine_evaluateIf 4 = .ok (.aload_n 0, 1) := by decide +kernel
theorem d_Machine_evaluateIf_5 : decode k_Machine_evaluateIf 5 = .ok (.getfield 9, 3) := by decide +kernel
theorem d_Machine_evaluateIf_8 : decode k_Machine_evaluateIf 8 = .ok (.getfield 71, 3) := by decide +kernel
theorem d_Machine_evaluateIf_11 : decode k_Machine_evaluateIf 11 = .ok (.invokevirtual 136, 3) := by decide +kernel
theorem d_Machine_evaluateIf_14 : decode k_Machine_evaluateIf 14 = .ok (.istore_n 1, 1) := by decide +kernel
theorem d_Machine_evaluateIf_15 : decode k_Machine_evaluateIf 15 = .ok (.iload_n 1, 1) := by decide +kernel
theorem d_Machine_evaluateIf_16 : decode k_Machine_evaluateIf 16 = .ok (.iconst 3, 1) := by decide +kernel
theorem d_Machine_evaluateIf_17 : decode k_Machine_evaluateIf 17 = .ok (.if_icmp .eq (11), 3) := by decide +kernel
theorem d_Machine_evaluateIf_20 : decode k_Machine_evaluateIf 20 = .ok (.iload_n 1, 1) := by decide +kernel
theorem d_Machine_evaluateIf_21 : decode k_Machine_evaluateIf 21 = .ok (.iconst 4, 1) := by decide +kernel
theorem d_Machine_evaluateIf_22 : decode k_Machine_evaluateIf 22 = .ok (.if_icmp .eq (6), 3) := by decide +kernel
theorem d_Machine_evaluateIf_25 : decode k_Machine_evaluateIf 25 = .ok (.bipush (-3), 2) := by decide +kernel
theorem d_Machine_evaluateIf_27 : decode k_Machine_evaluateIf 27 = .ok (.ireturn, 1) := by decide +kernel
theorem d_Machine_evaluateIf_28 : decode k_Machine_evaluateIf 28 = .ok (.aload_n 0, 1) := by decide +kernel
theorem d_Machine_evaluateIf_29 : decode k_Machine_evaluateIf 29 = .ok (.iconst 1, 1) := by decide +kernel
theorem d_Machine_evaluateIf_30 : decode k_Machine_evaluateIf 30 = .ok (.aload_n 0, 1) := by decide +kernel
theorem d_Machine_evaluateIf_31 : decode k_Machine_evaluateIf 31 = .ok (.getfield 15, 3) := by decide +kernel
theorem d_Machine_evaluateIf_34 : decode k_Machine_evaluateIf 34 = .ok (.aload_n 0, 1) := by decide +kernel
theorem d_Machine_evaluateIf_35 : decode k_Machine_evaluateIf 35 = .ok (.getfield 9, 3) := by decide +kernel
theorem d_Machine_evaluateIf_38 : decode k_Machine_evaluateIf 38 = .ok (.getfield 71, 3) := by decide +kernel
theorem d_Machine_evaluateIf_41 : decode k_Machine_evaluateIf 41 = .ok (.iconst 2, 1) := by decide +kernel
theorem d_Machine_evaluateIf_42 : decode k_Machine_evaluateIf 42 = .ok (.invokevirtual 133, 3) := by decide +kernel
theorem d_Machine_evaluateIf_45 : decode k_Machine_evaluateIf 45 = .ok (.aload_n 0, 1) := by decide +kernel
theorem d_Machine_evaluateIf_46 : decode k_Machine_evaluateIf 46 = .ok (.getfield 9, 3) := by decide +kernel
theorem d_Machine_evaluateIf_49 : decode k_Machine_evaluateIf 49 = .ok (.getfield 74, 3) := by decide +kernel
theorem d_Machine_evaluateIf_52 : decode k_Machine_evaluateIf 52 = .ok (.aload_n 0, 1) := by decide +kernel
theorem d_Machine_evaluateIf_53 : decode k_Machine_evaluateIf 53 = .ok (.iconst 1, 1) := by decide +kernel
theorem d_Machine_evaluateIf_54 : decode k_Machine_evaluateIf 54 = .ok (.invokevirtual 139, 3) := by decide +kernel
theorem d_Machine_evaluateIf_57 : decode k_Machine_evaluateIf 57 = .ok (.invokevirtual 117, 3) := by decide +kernel
theorem d_Machine_evaluateIf_60 : decode k_Machine_evaluateIf 60 = .ok (.ireturn, 1) := by decide +kernel
theorem d_Machine_evaluateLambda_0 : decode k_Machine_evaluateLambda 0 = .ok (.aload_n 0, 1) := by decide +kernel
theorem d_Machine_evaluateLambda_1 : decode k_Machine_evaluateLambda 1 = .ok (.getfield 15, 3) := by decide +kernel
theorem d_Machine_evaluateLambda_4 : decode k_Machine_evaluateLambda 4 = .ok (.aload_n 0, 1) := by decide +kernel
theorem d_Machine_evaluateLambda_5 : decode k_Machine_evaluateLambda 5 = .ok (.getfield 9, 3) := by decide +kernel
theorem d_Machine_evaluateLambda_8 : decode k_Machine_evaluateLambda 8 = .ok (.getfield 71, 3) := by decide +kernel
theorem d_Machine_evaluateLambda_11 : decode k_Machine_evaluateLambda 11 = .ok (.invokevirtual 136, 3) := by decide +kernel
theorem d_Machine_evaluateLambda_14 : decode k_Machine_evaluateLambda 14 = .ok (.iconst 3, 1) := by decide +kernel
theorem d_Machine_evaluateLambda_15 : decode k_Machine_evaluateLambda 15 = .ok (.if_icmp .ne (15), 3) := by decide +kernel
theorem d_Machine_evaluateLambda_18 : decode k_Machine_evaluateLambda 18 = .ok (.aload_n 0, 1) := by decide +kernel
theorem d_Machine_evaluateLambda_19 : decode k_Machine_evaluateLambda 19 = .ok (.aload_n 0, 1) := by decide +kernel
theorem d_Machine_evaluateLambda_20 : decode k_Machine_evaluateLambda 20 = .ok (.iconst 1, 1) := by decide +kernel
theorem d_Machine_evaluateLambda_21 : decode k_Machine_evaluateLambda 21 = .ok (.invokevirtual 139, 3) := by decide +kernel
theorem d_Machine_evaluateLambda_24 : decode k_Machine_evaluateLambda 24 = .ok (.invokevirtual 142, 3) := by decide +kernel
theorem d_Machine_evaluateLambda_27 : decode k_Machine_evaluateLambda 27 = .ok (.ifCond .ne (6), 3) := by decide +kernel
theorem d_Machine_evaluateLambda_30 : decode k_Machine_evaluateLambda 30 = .ok (.bipush (-3), 2) := by decide +kernel
theorem d_Machine_evaluateLambda_32 : decode k_Machine_evaluateLambda 32 = .ok (.ireturn, 1) := by decide +kernel
theorem d_Machine_evaluateLambda_33 : decode k_Machine_evaluateLambda 33 = .ok (.aload_n 0, 1) := by decide +kernel
theorem d_Machine_evaluateLambda_34 : decode k_Machine_evaluateLambda 34 = .ok (.getfield 15, 3) := by decide +kernel
theorem d_Machine_evaluateLambda_37 : decode k_Machine_evaluateLambda 37 = .ok (.iconst 3, 1) := by decide +kernel
theorem d_Machine_evaluateLambda_38 : decode k_Machine_evaluateLambda 38 = .ok (.invokevirtual 145, 3) := by decide +kernel
theorem d_Machine_evaluateLambda_41 : decode k_Machine_evaluateLambda 41 = .ok (.ifCond .ne (6), 3) := by decide +kernel
theorem d_Machine_evaluateLambda_44 : decode k_Machine_evaluateLambda 44 = .ok (.bipush (-7), 2) := by decide +kernel
theorem d_Machine_evaluateLambda_46 : decode k_Machine_evaluateLambda 46 = .ok (.ireturn, 1) := by decide +kernel
theorem d_Machine_evaluateLambda_47 : decode k_Machine_evaluateLambda 47 = .ok (.aload_n 0, 1) := by decide +kernel
theorem d_Machine_evaluateLambda_48 : decode k_Machine_evaluateLambda 48 = .ok (.aload_n 0, 1) := by decide +kernel
theorem d_Machine_evaluateLambda_49 : decode k_Machine_evaluateLambda 49 = .ok (.getfield 15, 3) := by decide +kernel
theorem d_Machine_evaluateLambda_52 : decode k_Machine_evaluateLambda 52 = .ok (.aload_n 0, 1) := by decide +kernel
theorem d_Machine_evaluateLambda_53 : decode k_Machine_evaluateLambda 53 = .ok (.iconst 1, 1) := by decide +kernel
theorem d_Machine_evaluateLambda_54 : decode k_Machine_evaluateLambda 54 = .ok (.invokevirtual 139, 3) := by decide +kernel
theorem d_Machine_evaluateLambda_57 : decode k_Machine_evaluateLambda 57 = .ok (.aload_n 0, 1) := by decide +kernel
theorem d_Machine_evaluateLambda_58 : decode k_Machine_evaluateLambda 58 = .ok (.iconst 2, 1) := by decide +kernel
theorem d_Machine_evaluateLambda_59 : decode k_Machine_evaluateLambda 59 = .ok (.invokevirtual 139, 3) := by decide +kernel
theorem d_Machine_evaluateLambda_62 : decode k_Machine_evaluateLambda 62 = .ok (.aload_n 0, 1) := by decide +kernel
theorem d_Machine_evaluateLambda_63 : decode k_Machine_evaluateLambda 63 = .ok (.getfield 9, 3) := by decide +kernel
theorem d_Machine_evaluateLambda_66 : decode k_Machine_evaluateLambda 66 = .ok (.getfield 74, 3) := by decide +kernel
theorem d_Machine_evaluateLambda_69 : decode k_Machine_evaluateLambda 69 = .ok (.invokevirtual 148, 3) := by decide +kernel
theorem d_Machine_evaluateLambda_72 : decode k_Machine_evaluateLambda 72 = .ok (.invokevirtual 90, 3) := by decide +kernel
theorem d_Machine_evaluateLambda_75 : decode k_Machine_evaluateLambda 75 = .ok (.ireturn, 1) := by decide +kernel
theorem d_Machine_areParameters_0 : decode k_Machine_areParameters 0 = .ok (.iload_n 1, 1) := by decide +kernel
theorem d_Machine_areParameters_1 : decode k_Machine_areParameters 1 = .ok (.istore_n 2, 1) := by decide +kernel
theorem d_Machine_areParameters_2 : decode k_Machine_areParameters 2 = .ok (.iconst 0, 1) := by decide +kernel
theorem d_Machine_areParameters_3 : decode k_Machine_areParameters 3 = .ok (.istore_n 3, 1) := by decide +kernel
theorem d_Machine_areParameters_4 : decode k_Machine_areParameters 4 = .ok (.iload_n 3, 1) := by decide +kernel
theorem d_Machine_areParameters_5 : decode k_Machine_areParameters 5 = .ok (.iconst 4, 1) := by decide +kernel
theorem d_Machine_areParameters_6 : decode k_Machine_areParameters 6 = .ok (.if_icmp .ge (41), 3) := by decide +kernel
theorem d_Machine_areParameters_9 : decode k_Machine_areParameters 9 = .ok (.iload_n 2, 1) := by decide +kernel
theorem d_Machine_areParameters_10 : decode k_Machine_areParameters 10 = .ok (.invokestatic 87, 3) := by decide +kernel
theorem d_Machine_areParameters_13 : decode k_Machine_areParameters 13 = .ok (.ifCond .eq (34), 3) := by decide +kernel
theorem d_Machine_areParameters_16 : decode k_Machine_areParameters 16 = .ok (.aload_n 0, 1) := by decide +kernel
theorem d_Machine_areParameters_17 : decode k_Machine_areParameters 17 = .ok (.getfield 15, 3) := by decide +kernel
theorem d_Machine_areParameters_20 : decode k_Machine_areParameters 20 = .ok (.iload_n 2, 1) := by decide +kernel
theorem d_Machine_areParameters_21 : decode k_Machine_areParameters 21 = .ok (.invokevirtual 94, 3) := by decide +kernel
theorem d_Machine_areParameters_24 : decode k_Machine_areParameters 24 = .ok (.invokestatic 80, 3) := by decide +kernel
theorem d_Machine_areParameters_27 : decode k_Machine_areParameters 27 = .ok (.ifCond .ne (5), 3) := by decide +kernel
theorem d_Machine_areParameters_30 : decode k_Machine_areParameters 30 = .ok (.iconst 0, 1) := by decide +kernel
theorem d_Machine_areParameters_31 : decode k_Machine_areParameters 31 = .ok (.ireturn, 1) := by decide +kernel
theorem d_Machine_areParameters_32 : decode k_Machine_areParameters 32 = .ok (.aload_n 0, 1) := by decide +kernel
theorem d_Machine_areParameters_33 : decode k_Machine_areParameters 33 = .ok (.getfield 15, 3) := by decide +kernel
theorem d_Machine_areParameters_36 : decode k_Machine_areParameters 36 = .ok (.iload_n 2, 1) := by decide +kernel
theorem d_Machine_areParameters_37 : decode k_Machine_areParameters 37 = .ok (.invokevirtual 114, 3) := by decide +kernel
theorem d_Machine_areParameters_40 : decode k_Machine_areParameters 40 = .ok (.istore_n 2, 1) := by decide +kernel
theorem d_Machine_areParameters_41 : decode k_Machine_areParameters 41 = .ok (.iinc 3 1, 3) := by decide +kernel
theorem d_Machine_areParameters_44 : decode k_Machine_areParameters 44 = .ok (.goto (-40), 3) := by decide +kernel
theorem d_Machine_areParameters_47 : decode k_Machine_areParameters 47 = .ok (.iload_n 2, 1) := by decide +kernel
theorem d_Machine_areParameters_48 : decode k_Machine_areParameters 48 = .ok (.iconst 2, 1) := by decide +kernel
theorem d_Machine_areParameters_49 : decode k_Machine_areParameters 49 = .ok (.if_icmp .ne (7), 3) := by decide +kernel
theorem d_Machine_areParameters_52 : decode k_Machine_areParameters 52 = .ok (.iconst 1, 1) := by decide +kernel
theorem d_Machine_areParameters_53 : decode k_Machine_areParameters 53 = .ok (.goto (4), 3) := by decide +kernel
theorem d_Machine_areParameters_56 : decode k_Machine_areParameters 56 = .ok (.iconst 0, 1) := by decide +kernel
theorem d_Machine_areParameters_57 : decode k_Machine_areParameters 57 = .ok (.ireturn, 1) := by decide +kernel
theorem d_Machine_evaluateNaming_0 : decode k_Machine_evaluateNaming 0 = .ok (.aload_n 0, 1) := by decide +kernel
theorem d_Machine_evaluateNaming_1 : decode k_Machine_evaluateNaming 1 = .ok (.getfield 15, 3) := by decide +kernel
theorem d_Machine_evaluateNaming_4 : decode k_Machine_evaluateNaming 4 = .ok (.aload_n 0, 1) := by decide +kernel
theorem d_Machine_evaluateNaming_5 : decode k_Machine_evaluateNaming 5 = .ok (.getfield 9, 3) := by decide +kernel
theorem d_Machine_evaluateNaming_8 : decode k_Machine_evaluateNaming 8 = .ok (.getfield 71, 3) := by decide +kernel
theorem d_Machine_evaluateNaming_11 : decode k_Machine_evaluateNaming 11 = .ok (.invokevirtual 136, 3) := by decide +kernel
theorem d_Machine_evaluateNaming_14 : decode k_Machine_evaluateNaming 14 = .ok (.iconst 3, 1) := by decide +kernel
theorem d_Machine_evaluateNaming_15 : decode k_Machine_evaluateNaming 15 = .ok (.if_icmp .ne (14), 3) := by decide +kernel
theorem d_Machine_evaluateNaming_18 : decode k_Machine_evaluateNaming 18 = .ok (.aload_n 0, 1) := by decide +kernel
theorem d_Machine_evaluateNaming_19 : decode k_Machine_evaluateNaming 19 = .ok (.iconst 1, 1) := by decide +kernel
theorem d_Machine_evaluateNaming_20 : decode k_Machine_evaluateNaming 20 = .ok (.invokevirtual 139, 3) := by decide +kernel
theorem d_Machine_evaluateNaming_23 : decode k_Machine_evaluateNaming 23 = .ok (.invokestatic 80, 3) := by decide +kernel
theorem d_Machine_evaluateNaming_26 : decode k_Machine_evaluateNaming 26 = .ok (.ifCond .ne (6), 3) := by decide +kernel
theorem d_Machine_evaluateNaming_29 : decode k_Machine_evaluateNaming 29 = .ok (.bipush (-3), 2) := by decide +kernel
theorem d_Machine_evaluateNaming_31 : decode k_Machine_evaluateNaming 31 = .ok (.ireturn, 1) := by decide +kernel
theorem d_Machine_evaluateNaming_32 : decode k_Machine_evaluateNaming 32 = .ok (.aload_n 0, 1) := by decide +kernel
theorem d_Machine_evaluateNaming_33 : decode k_Machine_evaluateNaming 33 = .ok (.iload_n 1, 1) := by decide +kernel
theorem d_Machine_evaluateNaming_34 : decode k_Machine_evaluateNaming 34 = .ok (.aload_n 0, 1) := by decide +kernel
theorem d_Machine_evaluateNaming_35 : decode k_Machine_evaluateNaming 35 = .ok (.iconst 1, 1) := by decide +kernel
theorem d_Machine_evaluateNaming_36 : decode k_Machine_evaluateNaming 36 = .ok (.invokevirtual 139, 3) := by decide +kernel
theorem d_Machine_evaluateNaming_39 : decode k_Machine_evaluateNaming 39 = .ok (.iload_n 2, 1) := by decide +kernel
theorem d_Machine_evaluateNaming_40 : decode k_Machine_evaluateNaming 40 = .ok (.aload_n 0, 1) := by decide +kernel
theorem d_Machine_evaluateNaming_41 : decode k_Machine_evaluateNaming 41 = .ok (.iconst 2, 1) := by decide +kernel
theorem d_Machine_evaluateNaming_42 : decode k_Machine_evaluateNaming 42 = .ok (.invokevirtual 139, 3) := by decide +kernel
theorem d_Machine_evaluateNaming_45 : decode k_Machine_evaluateNaming 45 = .ok (.invokevirtual 117, 3) := by decide +kernel
theorem d_Machine_evaluateNaming_48 : decode k_Machine_evaluateNaming 48 = .ok (.ireturn, 1) := by decide +kernel
theorem d_Machine_choose_0 : decode k_Machine_choose 0 = .ok (.aload_n 0, 1) := by decide +kernel
theorem d_Machine_choose_1 : decode k_Machine_choose 1 = .ok (.getfield 9, 3) := by decide +kernel
theorem d_Machine_choose_4 : decode k_Machine_choose 4 = .ok (.getfield 71, 3) := by decide +kernel
theorem d_Machine_choose_7 : decode k_Machine_choose 7 = .ok (.iconst 2, 1) := by decide +kernel
theorem d_Machine_choose_8 : decode k_Machine_choose 8 = .ok (.if_icmp .ne (20), 3) := by decide +kernel
theorem d_Machine_choose_11 : decode k_Machine_choose 11 = .ok (.aload_n 0, 1) := by decide +kernel
