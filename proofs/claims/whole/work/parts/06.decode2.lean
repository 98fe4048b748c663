theorem d_Machine_choose_12 : decode k_Machine_choose 12 = .ok (.getfield 15, 3) := by decide +kernel
theorem d_Machine_choose_15 : decode k_Machine_choose 15 = .ok (.aload_n 0, 1) := by decide +kernel
theorem d_Machine_choose_16 : decode k_Machine_choose 16 = .ok (.getfield 9, 3) := by decide +kernel
theorem d_Machine_choose_19 : decode k_Machine_choose 19 = .ok (.invokevirtual 168, 3) := by decide +kernel
theorem d_Machine_choose_22 : decode k_Machine_choose 22 = .ok (.invokevirtual 114, 3) := by decide +kernel
theorem d_Machine_choose_25 : decode k_Machine_choose 25 = .ok (.goto (10), 3) := by decide +kernel
theorem d_Machine_choose_28 : decode k_Machine_choose 28 = .ok (.aload_n 0, 1) := by decide +kernel
theorem d_Machine_choose_29 : decode k_Machine_choose 29 = .ok (.getfield 9, 3) := by decide +kernel
theorem d_Machine_choose_32 : decode k_Machine_choose 32 = .ok (.invokevirtual 168, 3) := by decide +kernel
theorem d_Machine_choose_35 : decode k_Machine_choose 35 = .ok (.istore_n 1, 1) := by decide +kernel
theorem d_Machine_choose_36 : decode k_Machine_choose 36 = .ok (.aload_n 0, 1) := by decide +kernel
theorem d_Machine_choose_37 : decode k_Machine_choose 37 = .ok (.getfield 9, 3) := by decide +kernel
theorem d_Machine_choose_40 : decode k_Machine_choose 40 = .ok (.invokevirtual 183, 3) := by decide +kernel
theorem d_Machine_choose_43 : decode k_Machine_choose 43 = .ok (.istore_n 2, 1) := by decide +kernel
theorem d_Machine_choose_44 : decode k_Machine_choose 44 = .ok (.aload_n 0, 1) := by decide +kernel
theorem d_Machine_choose_45 : decode k_Machine_choose 45 = .ok (.getfield 9, 3) := by decide +kernel
theorem d_Machine_choose_48 : decode k_Machine_choose 48 = .ok (.invokevirtual 186, 3) := by decide +kernel
theorem d_Machine_choose_51 : decode k_Machine_choose 51 = .ok (.iload_n 1, 1) := by decide +kernel
theorem d_Machine_choose_52 : decode k_Machine_choose 52 = .ok (.invokestatic 87, 3) := by decide +kernel
theorem d_Machine_choose_55 : decode k_Machine_choose 55 = .ok (.ifCond .ne (9), 3) := by decide +kernel
theorem d_Machine_choose_58 : decode k_Machine_choose 58 = .ok (.aload_n 0, 1) := by decide +kernel
theorem d_Machine_choose_59 : decode k_Machine_choose 59 = .ok (.iconst 2, 1) := by decide +kernel
theorem d_Machine_choose_60 : decode k_Machine_choose 60 = .ok (.invokevirtual 90, 3) := by decide +kernel
theorem d_Machine_choose_63 : decode k_Machine_choose 63 = .ok (.ireturn, 1) := by decide +kernel
theorem d_Machine_choose_64 : decode k_Machine_choose 64 = .ok (.aload_n 0, 1) := by decide +kernel
theorem d_Machine_choose_65 : decode k_Machine_choose 65 = .ok (.aload_n 0, 1) := by decide +kernel
theorem d_Machine_choose_66 : decode k_Machine_choose 66 = .ok (.getfield 15, 3) := by decide +kernel
theorem d_Machine_choose_69 : decode k_Machine_choose 69 = .ok (.iload_n 1, 1) := by decide +kernel
theorem d_Machine_choose_70 : decode k_Machine_choose 70 = .ok (.invokevirtual 94, 3) := by decide +kernel
theorem d_Machine_choose_73 : decode k_Machine_choose 73 = .ok (.iload_n 2, 1) := by decide +kernel
theorem d_Machine_choose_74 : decode k_Machine_choose 74 = .ok (.invokevirtual 67, 3) := by decide +kernel
theorem d_Machine_choose_77 : decode k_Machine_choose 77 = .ok (.ireturn, 1) := by decide +kernel
theorem d_Machine_define_0 : decode k_Machine_define 0 = .ok (.aload_n 0, 1) := by decide +kernel
theorem d_Machine_define_1 : decode k_Machine_define 1 = .ok (.getfield 9, 3) := by decide +kernel
theorem d_Machine_define_4 : decode k_Machine_define 4 = .ok (.invokevirtual 168, 3) := by decide +kernel
theorem d_Machine_define_7 : decode k_Machine_define 7 = .ok (.istore_n 1, 1) := by decide +kernel
theorem d_Machine_define_8 : decode k_Machine_define 8 = .ok (.aload_n 0, 1) := by decide +kernel
theorem d_Machine_define_9 : decode k_Machine_define 9 = .ok (.getfield 19, 3) := by decide +kernel
theorem d_Machine_define_12 : decode k_Machine_define 12 = .ok (.iload_n 1, 1) := by decide +kernel
theorem d_Machine_define_13 : decode k_Machine_define 13 = .ok (.invokestatic 99, 3) := by decide +kernel
theorem d_Machine_define_16 : decode k_Machine_define 16 = .ok (.aload_n 0, 1) := by decide +kernel
theorem d_Machine_define_17 : decode k_Machine_define 17 = .ok (.getfield 9, 3) := by decide +kernel
theorem d_Machine_define_20 : decode k_Machine_define 20 = .ok (.getfield 71, 3) := by decide +kernel
theorem d_Machine_define_23 : decode k_Machine_define 23 = .ok (.invokevirtual 189, 3) := by decide +kernel
theorem d_Machine_define_26 : decode k_Machine_define 26 = .ok (.aload_n 0, 1) := by decide +kernel
theorem d_Machine_define_27 : decode k_Machine_define 27 = .ok (.getfield 9, 3) := by decide +kernel
theorem d_Machine_define_30 : decode k_Machine_define 30 = .ok (.invokevirtual 186, 3) := by decide +kernel
theorem d_Machine_define_33 : decode k_Machine_define 33 = .ok (.aload_n 0, 1) := by decide +kernel
theorem d_Machine_define_34 : decode k_Machine_define 34 = .ok (.iload_n 1, 1) := by decide +kernel
theorem d_Machine_define_35 : decode k_Machine_define 35 = .ok (.invokevirtual 90, 3) := by decide +kernel
theorem d_Machine_define_38 : decode k_Machine_define 38 = .ok (.ireturn, 1) := by decide +kernel
theorem d_Machine_assign_0 : decode k_Machine_assign 0 = .ok (.aload_n 0, 1) := by decide +kernel
theorem d_Machine_assign_1 : decode k_Machine_assign 1 = .ok (.getfield 15, 3) := by decide +kernel
theorem d_Machine_assign_4 : decode k_Machine_assign 4 = .ok (.aload_n 0, 1) := by decide +kernel
theorem d_Machine_assign_5 : decode k_Machine_assign 5 = .ok (.getfield 9, 3) := by decide +kernel
theorem d_Machine_assign_8 : decode k_Machine_assign 8 = .ok (.invokevirtual 168, 3) := by decide +kernel
theorem d_Machine_assign_11 : decode k_Machine_assign 11 = .ok (.aload_n 0, 1) := by decide +kernel
theorem d_Machine_assign_12 : decode k_Machine_assign 12 = .ok (.getfield 9, 3) := by decide +kernel
theorem d_Machine_assign_15 : decode k_Machine_assign 15 = .ok (.invokevirtual 183, 3) := by decide +kernel
theorem d_Machine_assign_18 : decode k_Machine_assign 18 = .ok (.invokevirtual 121, 3) := by decide +kernel
theorem d_Machine_assign_21 : decode k_Machine_assign 21 = .ok (.istore_n 1, 1) := by decide +kernel
theorem d_Machine_assign_22 : decode k_Machine_assign 22 = .ok (.aload_n 0, 1) := by decide +kernel
theorem d_Machine_assign_23 : decode k_Machine_assign 23 = .ok (.getfield 9, 3) := by decide +kernel
theorem d_Machine_assign_26 : decode k_Machine_assign 26 = .ok (.invokevirtual 168, 3) := by decide +kernel
theorem d_Machine_assign_29 : decode k_Machine_assign 29 = .ok (.invokestatic 99, 3) := by decide +kernel
theorem d_Machine_assign_32 : decode k_Machine_assign 32 = .ok (.istore_n 2, 1) := by decide +kernel
theorem d_Machine_assign_33 : decode k_Machine_assign 33 = .ok (.iload_n 1, 1) := by decide +kernel
theorem d_Machine_assign_34 : decode k_Machine_assign 34 = .ok (.iconst 2, 1) := by decide +kernel
theorem d_Machine_assign_35 : decode k_Machine_assign 35 = .ok (.if_icmp .eq (21), 3) := by decide +kernel
theorem d_Machine_assign_38 : decode k_Machine_assign 38 = .ok (.aload_n 0, 1) := by decide +kernel
theorem d_Machine_assign_39 : decode k_Machine_assign 39 = .ok (.getfield 15, 3) := by decide +kernel
theorem d_Machine_assign_42 : decode k_Machine_assign 42 = .ok (.iload_n 1, 1) := by decide +kernel
theorem d_Machine_assign_43 : decode k_Machine_assign 43 = .ok (.aload_n 0, 1) := by decide +kernel
theorem d_Machine_assign_44 : decode k_Machine_assign 44 = .ok (.getfield 9, 3) := by decide +kernel
theorem d_Machine_assign_47 : decode k_Machine_assign 47 = .ok (.getfield 71, 3) := by decide +kernel
theorem d_Machine_assign_50 : decode k_Machine_assign 50 = .ok (.invokevirtual 193, 3) := by decide +kernel
theorem d_Machine_assign_53 : decode k_Machine_assign 53 = .ok (.goto (37), 3) := by decide +kernel
theorem d_Machine_assign_56 : decode k_Machine_assign 56 = .ok (.aload_n 0, 1) := by decide +kernel
theorem d_Machine_assign_57 : decode k_Machine_assign 57 = .ok (.getfield 19, 3) := by decide +kernel
theorem d_Machine_assign_60 : decode k_Machine_assign 60 = .ok (.iload_n 2, 1) := by decide +kernel
theorem d_Machine_assign_61 : decode k_Machine_assign 61 = .ok (.invokevirtual 124, 3) := by decide +kernel
theorem d_Machine_assign_64 : decode k_Machine_assign 64 = .ok (.bipush 6, 2) := by decide +kernel
theorem d_Machine_assign_66 : decode k_Machine_assign 66 = .ok (.if_icmp .eq (21), 3) := by decide +kernel
theorem d_Machine_assign_69 : decode k_Machine_assign 69 = .ok (.aload_n 0, 1) := by decide +kernel
theorem d_Machine_assign_70 : decode k_Machine_assign 70 = .ok (.getfield 19, 3) := by decide +kernel
theorem d_Machine_assign_73 : decode k_Machine_assign 73 = .ok (.iload_n 2, 1) := by decide +kernel
theorem d_Machine_assign_74 : decode k_Machine_assign 74 = .ok (.aload_n 0, 1) := by decide +kernel
theorem d_Machine_assign_75 : decode k_Machine_assign 75 = .ok (.getfield 9, 3) := by decide +kernel
theorem d_Machine_assign_78 : decode k_Machine_assign 78 = .ok (.getfield 71, 3) := by decide +kernel
theorem d_Machine_assign_81 : decode k_Machine_assign 81 = .ok (.invokevirtual 189, 3) := by decide +kernel
theorem d_Machine_assign_84 : decode k_Machine_assign 84 = .ok (.goto (6), 3) := by decide +kernel
theorem d_Machine_assign_87 : decode k_Machine_assign 87 = .ok (.bipush (-2), 2) := by decide +kernel
theorem d_Machine_assign_89 : decode k_Machine_assign 89 = .ok (.ireturn, 1) := by decide +kernel
theorem d_Machine_assign_90 : decode k_Machine_assign 90 = .ok (.aload_n 0, 1) := by decide +kernel
theorem d_Machine_assign_91 : decode k_Machine_assign 91 = .ok (.getfield 9, 3) := by decide +kernel
theorem d_Machine_assign_94 : decode k_Machine_assign 94 = .ok (.invokevirtual 186, 3) := by decide +kernel
theorem d_Machine_assign_97 : decode k_Machine_assign 97 = .ok (.aload_n 0, 1) := by decide +kernel
theorem d_Machine_assign_98 : decode k_Machine_assign 98 = .ok (.aload_n 0, 1) := by decide +kernel
theorem d_Machine_assign_99 : decode k_Machine_assign 99 = .ok (.getfield 9, 3) := by decide +kernel
theorem d_Machine_assign_102 : decode k_Machine_assign 102 = .ok (.getfield 71, 3) := by decide +kernel
theorem d_Machine_assign_105 : decode k_Machine_assign 105 = .ok (.invokevirtual 90, 3) := by decide +kernel
theorem d_Machine_assign_108 : decode k_Machine_assign 108 = .ok (.ireturn, 1) := by decide +kernel
theorem d_Machine_keepValue_0 : decode k_Machine_keepValue 0 = .ok (.aload_n 0, 1) := by decide +kernel
theorem d_Machine_keepValue_1 : decode k_Machine_keepValue 1 = .ok (.getfield 15, 3) := by decide +kernel
theorem d_Machine_keepValue_4 : decode k_Machine_keepValue 4 = .ok (.iconst 2, 1) := by decide +kernel
theorem d_Machine_keepValue_5 : decode k_Machine_keepValue 5 = .ok (.invokevirtual 145, 3) := by decide +kernel
theorem d_Machine_keepValue_8 : decode k_Machine_keepValue 8 = .ok (.ifCond .ne (5), 3) := by decide +kernel
theorem d_Machine_keepValue_11 : decode k_Machine_keepValue 11 = .ok (.iconst 0, 1) := by decide +kernel
theorem d_Machine_keepValue_12 : decode k_Machine_keepValue 12 = .ok (.ireturn, 1) := by decide +kernel
theorem d_Machine_keepValue_13 : decode k_Machine_keepValue 13 = .ok (.aload_n 0, 1) := by decide +kernel
theorem d_Machine_keepValue_14 : decode k_Machine_keepValue 14 = .ok (.getfield 9, 3) := by decide +kernel
theorem d_Machine_keepValue_17 : decode k_Machine_keepValue 17 = .ok (.aload_n 0, 1) := by decide +kernel
theorem d_Machine_keepValue_18 : decode k_Machine_keepValue 18 = .ok (.getfield 15, 3) := by decide +kernel
theorem d_Machine_keepValue_21 : decode k_Machine_keepValue 21 = .ok (.aload_n 0, 1) := by decide +kernel
theorem d_Machine_keepValue_22 : decode k_Machine_keepValue 22 = .ok (.getfield 9, 3) := by decide +kernel
theorem d_Machine_keepValue_25 : decode k_Machine_keepValue 25 = .ok (.getfield 71, 3) := by decide +kernel
theorem d_Machine_keepValue_28 : decode k_Machine_keepValue 28 = .ok (.aload_n 0, 1) := by decide +kernel
theorem d_Machine_keepValue_29 : decode k_Machine_keepValue 29 = .ok (.getfield 9, 3) := by decide +kernel
theorem d_Machine_keepValue_32 : decode k_Machine_keepValue 32 = .ok (.invokevirtual 196, 3) := by decide +kernel
theorem d_Machine_keepValue_35 : decode k_Machine_keepValue 35 = .ok (.invokevirtual 199, 3) := by decide +kernel
theorem d_Machine_keepValue_38 : decode k_Machine_keepValue 38 = .ok (.invokevirtual 202, 3) := by decide +kernel
theorem d_Machine_keepValue_41 : decode k_Machine_keepValue 41 = .ok (.iconst 1, 1) := by decide +kernel
theorem d_Machine_keepValue_42 : decode k_Machine_keepValue 42 = .ok (.ireturn, 1) := by decide +kernel
theorem d_Machine_nextArgument_0 : decode k_Machine_nextArgument 0 = .ok (.aload_n 0, 1) := by decide +kernel
theorem d_Machine_nextArgument_1 : decode k_Machine_nextArgument 1 = .ok (.getfield 9, 3) := by decide +kernel
theorem d_Machine_nextArgument_4 : decode k_Machine_nextArgument 4 = .ok (.invokevirtual 168, 3) := by decide +kernel
theorem d_Machine_nextArgument_7 : decode k_Machine_nextArgument 7 = .ok (.istore_n 1, 1) := by decide +kernel
theorem d_Machine_nextArgument_8 : decode k_Machine_nextArgument 8 = .ok (.aload_n 0, 1) := by decide +kernel
theorem d_Machine_nextArgument_9 : decode k_Machine_nextArgument 9 = .ok (.getfield 9, 3) := by decide +kernel
theorem d_Machine_nextArgument_12 : decode k_Machine_nextArgument 12 = .ok (.aload_n 0, 1) := by decide +kernel
theorem d_Machine_nextArgument_13 : decode k_Machine_nextArgument 13 = .ok (.getfield 15, 3) := by decide +kernel
theorem d_Machine_nextArgument_16 : decode k_Machine_nextArgument 16 = .ok (.iload_n 1, 1) := by decide +kernel
theorem d_Machine_nextArgument_17 : decode k_Machine_nextArgument 17 = .ok (.invokevirtual 114, 3) := by decide +kernel
theorem d_Machine_nextArgument_20 : decode k_Machine_nextArgument 20 = .ok (.invokevirtual 205, 3) := by decide +kernel
theorem d_Machine_nextArgument_23 : decode k_Machine_nextArgument 23 = .ok (.aload_n 0, 1) := by decide +kernel
theorem d_Machine_nextArgument_24 : decode k_Machine_nextArgument 24 = .ok (.aload_n 0, 1) := by decide +kernel
theorem d_Machine_nextArgument_25 : decode k_Machine_nextArgument 25 = .ok (.getfield 15, 3) := by decide +kernel
theorem d_Machine_nextArgument_28 : decode k_Machine_nextArgument 28 = .ok (.iload_n 1, 1) := by decide +kernel
theorem d_Machine_nextArgument_29 : decode k_Machine_nextArgument 29 = .ok (.invokevirtual 94, 3) := by decide +kernel
theorem d_Machine_nextArgument_32 : decode k_Machine_nextArgument 32 = .ok (.aload_n 0, 1) := by decide +kernel
theorem d_Machine_nextArgument_33 : decode k_Machine_nextArgument 33 = .ok (.getfield 9, 3) := by decide +kernel
theorem d_Machine_nextArgument_36 : decode k_Machine_nextArgument 36 = .ok (.invokevirtual 183, 3) := by decide +kernel
theorem d_Machine_nextArgument_39 : decode k_Machine_nextArgument 39 = .ok (.invokevirtual 67, 3) := by decide +kernel
theorem d_Machine_nextArgument_42 : decode k_Machine_nextArgument 42 = .ok (.ireturn, 1) := by decide +kernel
theorem d_Machine_apply_0 : decode k_Machine_apply 0 = .ok (.aload_n 0, 1) := by decide +kernel
theorem d_Machine_apply_1 : decode k_Machine_apply 1 = .ok (.getfield 9, 3) := by decide +kernel
theorem d_Machine_apply_4 : decode k_Machine_apply 4 = .ok (.invokevirtual 196, 3) := by decide +kernel
theorem d_Machine_apply_7 : decode k_Machine_apply 7 = .ok (.istore_n 1, 1) := by decide +kernel
theorem d_Machine_apply_8 : decode k_Machine_apply 8 = .ok (.aload_n 0, 1) := by decide +kernel
theorem d_Machine_apply_9 : decode k_Machine_apply 9 = .ok (.getfield 15, 3) := by decide +kernel
theorem d_Machine_apply_12 : decode k_Machine_apply 12 = .ok (.iload_n 1, 1) := by decide +kernel
theorem d_Machine_apply_13 : decode k_Machine_apply 13 = .ok (.invokevirtual 136, 3) := by decide +kernel
theorem d_Machine_apply_16 : decode k_Machine_apply 16 = .ok (.iconst 1, 1) := by decide +kernel
theorem d_Machine_apply_17 : decode k_Machine_apply 17 = .ok (.isub, 1) := by decide +kernel
theorem d_Machine_apply_18 : decode k_Machine_apply 18 = .ok (.istore_n 2, 1) := by decide +kernel
theorem d_Machine_apply_19 : decode k_Machine_apply 19 = .ok (.aload_n 0, 1) := by decide +kernel
theorem d_Machine_apply_20 : decode k_Machine_apply 20 = .ok (.getfield 15, 3) := by decide +kernel
theorem d_Machine_apply_23 : decode k_Machine_apply 23 = .ok (.aload_n 0, 1) := by decide +kernel
theorem d_Machine_apply_24 : decode k_Machine_apply 24 = .ok (.getfield 15, 3) := by decide +kernel
theorem d_Machine_apply_27 : decode k_Machine_apply 27 = .ok (.iload_n 1, 1) := by decide +kernel
theorem d_Machine_apply_28 : decode k_Machine_apply 28 = .ok (.iload_n 2, 1) := by decide +kernel
theorem d_Machine_apply_29 : decode k_Machine_apply 29 = .ok (.invokevirtual 133, 3) := by decide +kernel
theorem d_Machine_apply_32 : decode k_Machine_apply 32 = .ok (.invokevirtual 94, 3) := by decide +kernel
theorem d_Machine_apply_35 : decode k_Machine_apply 35 = .ok (.istore_n 3, 1) := by decide +kernel
theorem d_Machine_apply_36 : decode k_Machine_apply 36 = .ok (.aload_n 0, 1) := by decide +kernel
theorem d_Machine_apply_37 : decode k_Machine_apply 37 = .ok (.iload_n 3, 1) := by decide +kernel
theorem d_Machine_apply_38 : decode k_Machine_apply 38 = .ok (.iload_n 2, 1) := by decide +kernel
theorem d_Machine_apply_39 : decode k_Machine_apply 39 = .ok (.invokevirtual 208, 3) := by decide +kernel
theorem d_Machine_apply_42 : decode k_Machine_apply 42 = .ok (.istore 4, 2) := by decide +kernel
theorem d_Machine_apply_44 : decode k_Machine_apply 44 = .ok (.iload 4, 2) := by decide +kernel
theorem d_Machine_apply_46 : decode k_Machine_apply 46 = .ok (.iconst 1, 1) := by decide +kernel
theorem d_Machine_apply_47 : decode k_Machine_apply 47 = .ok (.if_icmp .eq (6), 3) := by decide +kernel
theorem d_Machine_apply_50 : decode k_Machine_apply 50 = .ok (.iload 4, 2) := by decide +kernel
theorem d_Machine_apply_52 : decode k_Machine_apply 52 = .ok (.ireturn, 1) := by decide +kernel
theorem d_Machine_apply_53 : decode k_Machine_apply 53 = .ok (.aload_n 0, 1) := by decide +kernel
theorem d_Machine_apply_54 : decode k_Machine_apply 54 = .ok (.getfield 15, 3) := by decide +kernel
theorem d_Machine_apply_57 : decode k_Machine_apply 57 = .ok (.iload_n 3, 1) := by decide +kernel
theorem d_Machine_apply_58 : decode k_Machine_apply 58 = .ok (.iload_n 2, 1) := by decide +kernel
theorem d_Machine_apply_59 : decode k_Machine_apply 59 = .ok (.invokestatic 211, 3) := by decide +kernel
theorem d_Machine_apply_62 : decode k_Machine_apply 62 = .ok (.invokevirtual 145, 3) := by decide +kernel
theorem d_Machine_apply_65 : decode k_Machine_apply 65 = .ok (.ifCond .ne (6), 3) := by decide +kernel
theorem d_Machine_apply_68 : decode k_Machine_apply 68 = .ok (.bipush (-7), 2) := by decide +kernel
theorem d_Machine_apply_70 : decode k_Machine_apply 70 = .ok (.ireturn, 1) := by decide +kernel
theorem d_Machine_apply_71 : decode k_Machine_apply 71 = .ok (.aload_n 0, 1) := by decide +kernel
theorem d_Machine_apply_72 : decode k_Machine_apply 72 = .ok (.getfield 9, 3) := by decide +kernel
theorem d_Machine_apply_75 : decode k_Machine_apply 75 = .ok (.invokevirtual 186, 3) := by decide +kernel
theorem d_Machine_apply_78 : decode k_Machine_apply 78 = .ok (.iload_n 3, 1) := by decide +kernel
theorem d_Machine_apply_79 : decode k_Machine_apply 79 = .ok (.invokestatic 214, 3) := by decide +kernel
theorem d_Machine_apply_82 : decode k_Machine_apply 82 = .ok (.iconst 5, 1) := by decide +kernel
theorem d_Machine_apply_83 : decode k_Machine_apply 83 = .ok (.if_icmp .ne (23), 3) := by decide +kernel
theorem d_Machine_apply_86 : decode k_Machine_apply 86 = .ok (.aload_n 0, 1) := by decide +kernel
theorem d_Machine_apply_87 : decode k_Machine_apply 87 = .ok (.aload_n 0, 1) := by decide +kernel
theorem d_Machine_apply_88 : decode k_Machine_apply 88 = .ok (.getfield 15, 3) := by decide +kernel
theorem d_Machine_apply_91 : decode k_Machine_apply 91 = .ok (.iload_n 3, 1) := by decide +kernel
theorem d_Machine_apply_92 : decode k_Machine_apply 92 = .ok (.invokevirtual 114, 3) := by decide +kernel
theorem d_Machine_apply_95 : decode k_Machine_apply 95 = .ok (.aload_n 0, 1) := by decide +kernel
theorem d_Machine_apply_96 : decode k_Machine_apply 96 = .ok (.iload_n 3, 1) := by decide +kernel
theorem d_Machine_apply_97 : decode k_Machine_apply 97 = .ok (.iload_n 1, 1) := by decide +kernel
theorem d_Machine_apply_98 : decode k_Machine_apply 98 = .ok (.iload_n 2, 1) := by decide +kernel
theorem d_Machine_apply_99 : decode k_Machine_apply 99 = .ok (.invokevirtual 216, 3) := by decide +kernel
theorem d_Machine_apply_102 : decode k_Machine_apply 102 = .ok (.invokevirtual 67, 3) := by decide +kernel
theorem d_Machine_apply_105 : decode k_Machine_apply 105 = .ok (.ireturn, 1) := by decide +kernel
theorem d_Machine_apply_106 : decode k_Machine_apply 106 = .ok (.aload_n 0, 1) := by decide +kernel
theorem d_Machine_apply_107 : decode k_Machine_apply 107 = .ok (.aload_n 0, 1) := by decide +kernel
theorem d_Machine_apply_108 : decode k_Machine_apply 108 = .ok (.iload_n 3, 1) := by decide +kernel
theorem d_Machine_apply_109 : decode k_Machine_apply 109 = .ok (.invokestatic 99, 3) := by decide +kernel
theorem d_Machine_apply_112 : decode k_Machine_apply 112 = .ok (.iload_n 1, 1) := by decide +kernel
theorem d_Machine_apply_113 : decode k_Machine_apply 113 = .ok (.iload_n 2, 1) := by decide +kernel
theorem d_Machine_apply_114 : decode k_Machine_apply 114 = .ok (.invokevirtual 219, 3) := by decide +kernel
theorem d_Machine_apply_117 : decode k_Machine_apply 117 = .ok (.invokevirtual 90, 3) := by decide +kernel
theorem d_Machine_apply_120 : decode k_Machine_apply 120 = .ok (.ireturn, 1) := by decide +kernel
theorem d_Machine_faultOfCall_0 : decode k_Machine_faultOfCall 0 = .ok (.iload_n 1, 1) := by decide +kernel
theorem d_Machine_faultOfCall_1 : decode k_Machine_faultOfCall 1 = .ok (.invokestatic 214, 3) := by decide +kernel
theorem d_Machine_faultOfCall_4 : decode k_Machine_faultOfCall 4 = .ok (.lookupswitch (64) #[(3, 54), (5, 28)], 28) := by decide +kernel
theorem d_Machine_faultOfCall_32 : decode k_Machine_faultOfCall 32 = .ok (.iload_n 2, 1) := by decide +kernel
theorem d_Machine_faultOfCall_33 : decode k_Machine_faultOfCall 33 = .ok (.aload_n 0, 1) := by decide +kernel
theorem d_Machine_faultOfCall_34 : decode k_Machine_faultOfCall 34 = .ok (.getfield 15, 3) := by decide +kernel
theorem d_Machine_faultOfCall_37 : decode k_Machine_faultOfCall 37 = .ok (.aload_n 0, 1) := by decide +kernel
theorem d_Machine_faultOfCall_38 : decode k_Machine_faultOfCall 38 = .ok (.getfield 15, 3) := by decide +kernel
theorem d_Machine_faultOfCall_41 : decode k_Machine_faultOfCall 41 = .ok (.iload_n 1, 1) := by decide +kernel
theorem d_Machine_faultOfCall_42 : decode k_Machine_faultOfCall 42 = .ok (.invokevirtual 94, 3) := by decide +kernel
theorem d_Machine_faultOfCall_45 : decode k_Machine_faultOfCall 45 = .ok (.invokevirtual 136, 3) := by decide +kernel
theorem d_Machine_faultOfCall_48 : decode k_Machine_faultOfCall 48 = .ok (.if_icmp .ne (7), 3) := by decide +kernel
theorem d_Machine_faultOfCall_51 : decode k_Machine_faultOfCall 51 = .ok (.iconst 1, 1) := by decide +kernel
theorem d_Machine_faultOfCall_52 : decode k_Machine_faultOfCall 52 = .ok (.goto (5), 3) := by decide +kernel
theorem d_Machine_faultOfCall_55 : decode k_Machine_faultOfCall 55 = .ok (.bipush (-4), 2) := by decide +kernel
theorem d_Machine_faultOfCall_57 : decode k_Machine_faultOfCall 57 = .ok (.ireturn, 1) := by decide +kernel
theorem d_Machine_faultOfCall_58 : decode k_Machine_faultOfCall 58 = .ok (.aload_n 0, 1) := by decide +kernel
theorem d_Machine_faultOfCall_59 : decode k_Machine_faultOfCall 59 = .ok (.iload_n 1, 1) := by decide +kernel
theorem d_Machine_faultOfCall_60 : decode k_Machine_faultOfCall 60 = .ok (.invokestatic 99, 3) := by decide +kernel
theorem d_Machine_faultOfCall_63 : decode k_Machine_faultOfCall 63 = .ok (.iload_n 2, 1) := by decide +kernel
theorem d_Machine_faultOfCall_64 : decode k_Machine_faultOfCall 64 = .ok (.invokevirtual 222, 3) := by decide +kernel
theorem d_Machine_faultOfCall_67 : decode k_Machine_faultOfCall 67 = .ok (.ireturn, 1) := by decide +kernel
theorem d_Machine_faultOfCall_68 : decode k_Machine_faultOfCall 68 = .ok (.bipush (-5), 2) := by decide +kernel
theorem d_Machine_faultOfCall_70 : decode k_Machine_faultOfCall 70 = .ok (.ireturn, 1) := by decide +kernel
theorem d_Machine_faultOfPrimitive_0 : decode k_Machine_faultOfPrimitive 0 = .ok (.aload_n 0, 1) := by decide +kernel
theorem d_Machine_faultOfPrimitive_1 : decode k_Machine_faultOfPrimitive 1 = .ok (.getfield 15, 3) := by decide +kernel
theorem d_Machine_faultOfPrimitive_4 : decode k_Machine_faultOfPrimitive 4 = .ok (.aload_n 0, 1) := by decide +kernel
theorem d_Machine_faultOfPrimitive_5 : decode k_Machine_faultOfPrimitive 5 = .ok (.getfield 9, 3) := by decide +kernel
theorem d_Machine_faultOfPrimitive_8 : decode k_Machine_faultOfPrimitive 8 = .ok (.invokevirtual 196, 3) := by decide +kernel
theorem d_Machine_faultOfPrimitive_11 : decode k_Machine_faultOfPrimitive 11 = .ok (.invokevirtual 94, 3) := by decide +kernel
theorem d_Machine_faultOfPrimitive_14 : decode k_Machine_faultOfPrimitive 14 = .ok (.istore_n 3, 1) := by decide +kernel
theorem d_Machine_faultOfPrimitive_15 : decode k_Machine_faultOfPrimitive 15 = .ok (.aload_n 0, 1) := by decide +kernel
theorem d_Machine_faultOfPrimitive_16 : decode k_Machine_faultOfPrimitive 16 = .ok (.getfield 15, 3) := by decide +kernel
theorem d_Machine_faultOfPrimitive_19 : decode k_Machine_faultOfPrimitive 19 = .ok (.aload_n 0, 1) := by decide +kernel
theorem d_Machine_faultOfPrimitive_20 : decode k_Machine_faultOfPrimitive 20 = .ok (.getfield 15, 3) := by decide +kernel
theorem d_Machine_faultOfPrimitive_23 : decode k_Machine_faultOfPrimitive 23 = .ok (.aload_n 0, 1) := by decide +kernel
theorem d_Machine_faultOfPrimitive_24 : decode k_Machine_faultOfPrimitive 24 = .ok (.getfield 9, 3) := by decide +kernel
theorem d_Machine_faultOfPrimitive_27 : decode k_Machine_faultOfPrimitive 27 = .ok (.invokevirtual 196, 3) := by decide +kernel
theorem d_Machine_faultOfPrimitive_30 : decode k_Machine_faultOfPrimitive 30 = .ok (.invokevirtual 114, 3) := by decide +kernel
theorem d_Machine_faultOfPrimitive_33 : decode k_Machine_faultOfPrimitive 33 = .ok (.invokevirtual 94, 3) := by decide +kernel
theorem d_Machine_faultOfPrimitive_36 : decode k_Machine_faultOfPrimitive 36 = .ok (.istore 4, 2) := by decide +kernel
theorem d_Machine_faultOfPrimitive_38 : decode k_Machine_faultOfPrimitive 38 = .ok (.iload_n 1, 1) := by decide +kernel
theorem d_Machine_faultOfPrimitive_39 : decode k_Machine_faultOfPrimitive 39 = .ok (.tableswitch (85) (4) (9) #[73, 39, 73, 51, 51, 37], 37) := by decide +kernel
theorem d_Machine_faultOfPrimitive_76 : decode k_Machine_faultOfPrimitive 76 = .ok (.iconst 1, 1) := by decide +kernel
theorem d_Machine_faultOfPrimitive_77 : decode k_Machine_faultOfPrimitive 77 = .ok (.ireturn, 1) := by decide +kernel
theorem d_Machine_faultOfPrimitive_78 : decode k_Machine_faultOfPrimitive 78 = .ok (.iload_n 2, 1) := by decide +kernel
theorem d_Machine_faultOfPrimitive_79 : decode k_Machine_faultOfPrimitive 79 = .ok (.iconst 1, 1) := by decide +kernel
theorem d_Machine_faultOfPrimitive_80 : decode k_Machine_faultOfPrimitive 80 = .ok (.if_icmp .ne (7), 3) := by decide +kernel
theorem d_Machine_faultOfPrimitive_83 : decode k_Machine_faultOfPrimitive 83 = .ok (.iconst 1, 1) := by decide +kernel
theorem d_Machine_faultOfPrimitive_84 : decode k_Machine_faultOfPrimitive 84 = .ok (.goto (5), 3) := by decide +kernel
theorem d_Machine_faultOfPrimitive_87 : decode k_Machine_faultOfPrimitive 87 = .ok (.bipush (-4), 2) := by decide +kernel
theorem d_Machine_faultOfPrimitive_89 : decode k_Machine_faultOfPrimitive 89 = .ok (.ireturn, 1) := by decide +kernel
theorem d_Machine_faultOfPrimitive_90 : decode k_Machine_faultOfPrimitive 90 = .ok (.iload_n 2, 1) := by decide +kernel
theorem d_Machine_faultOfPrimitive_91 : decode k_Machine_faultOfPrimitive 91 = .ok (.iconst 1, 1) := by decide +kernel
theorem d_Machine_faultOfPrimitive_92 : decode k_Machine_faultOfPrimitive 92 = .ok (.if_icmp .eq (6), 3) := by decide +kernel
theorem d_Machine_faultOfPrimitive_95 : decode k_Machine_faultOfPrimitive 95 = .ok (.bipush (-4), 2) := by decide +kernel
theorem d_Machine_faultOfPrimitive_97 : decode k_Machine_faultOfPrimitive 97 = .ok (.ireturn, 1) := by decide +kernel
theorem d_Machine_faultOfPrimitive_98 : decode k_Machine_faultOfPrimitive 98 = .ok (.iload_n 3, 1) := by decide +kernel
theorem d_Machine_faultOfPrimitive_99 : decode k_Machine_faultOfPrimitive 99 = .ok (.invokestatic 87, 3) := by decide +kernel
theorem d_Machine_faultOfPrimitive_102 : decode k_Machine_faultOfPrimitive 102 = .ok (.ifCond .eq (7), 3) := by decide +kernel
theorem d_Machine_faultOfPrimitive_105 : decode k_Machine_faultOfPrimitive 105 = .ok (.iconst 1, 1) := by decide +kernel
theorem d_Machine_faultOfPrimitive_106 : decode k_Machine_faultOfPrimitive 106 = .ok (.goto (5), 3) := by decide +kernel
theorem d_Machine_faultOfPrimitive_109 : decode k_Machine_faultOfPrimitive 109 = .ok (.bipush (-5), 2) := by decide +kernel
theorem d_Machine_faultOfPrimitive_111 : decode k_Machine_faultOfPrimitive 111 = .ok (.ireturn, 1) := by decide +kernel
theorem d_Machine_faultOfPrimitive_112 : decode k_Machine_faultOfPrimitive 112 = .ok (.iload_n 2, 1) := by decide +kernel
theorem d_Machine_faultOfPrimitive_113 : decode k_Machine_faultOfPrimitive 113 = .ok (.iconst 2, 1) := by decide +kernel
theorem d_Machine_faultOfPrimitive_114 : decode k_Machine_faultOfPrimitive 114 = .ok (.if_icmp .ne (7), 3) := by decide +kernel
theorem d_Machine_faultOfPrimitive_117 : decode k_Machine_faultOfPrimitive 117 = .ok (.iconst 1, 1) := by decide +kernel
theorem d_Machine_faultOfPrimitive_118 : decode k_Machine_faultOfPrimitive 118 = .ok (.goto (5), 3) := by decide +kernel
theorem d_Machine_faultOfPrimitive_121 : decode k_Machine_faultOfPrimitive 121 = .ok (.bipush (-4), 2) := by decide +kernel
theorem d_Machine_faultOfPrimitive_123 : decode k_Machine_faultOfPrimitive 123 = .ok (.ireturn, 1) := by decide +kernel
theorem d_Machine_faultOfPrimitive_124 : decode k_Machine_faultOfPrimitive 124 = .ok (.iload_n 2, 1) := by decide +kernel
theorem d_Machine_faultOfPrimitive_125 : decode k_Machine_faultOfPrimitive 125 = .ok (.iconst 2, 1) := by decide +kernel
theorem d_Machine_faultOfPrimitive_126 : decode k_Machine_faultOfPrimitive 126 = .ok (.if_icmp .eq (6), 3) := by decide +kernel
theorem d_Machine_faultOfPrimitive_129 : decode k_Machine_faultOfPrimitive 129 = .ok (.bipush (-4), 2) := by decide +kernel
theorem d_Machine_faultOfPrimitive_131 : decode k_Machine_faultOfPrimitive 131 = .ok (.ireturn, 1) := by decide +kernel
theorem d_Machine_faultOfPrimitive_132 : decode k_Machine_faultOfPrimitive 132 = .ok (.iload_n 3, 1) := by decide +kernel
theorem d_Machine_faultOfPrimitive_133 : decode k_Machine_faultOfPrimitive 133 = .ok (.invokestatic 225, 3) := by decide +kernel
theorem d_Machine_faultOfPrimitive_136 : decode k_Machine_faultOfPrimitive 136 = .ok (.ifCond .eq (15), 3) := by decide +kernel
theorem d_Machine_faultOfPrimitive_139 : decode k_Machine_faultOfPrimitive 139 = .ok (.iload 4, 2) := by decide +kernel
theorem d_Machine_faultOfPrimitive_141 : decode k_Machine_faultOfPrimitive 141 = .ok (.invokestatic 225, 3) := by decide +kernel
theorem d_Machine_faultOfPrimitive_144 : decode k_Machine_faultOfPrimitive 144 = .ok (.ifCond .eq (7), 3) := by decide +kernel
theorem d_Machine_faultOfPrimitive_147 : decode k_Machine_faultOfPrimitive 147 = .ok (.iconst 1, 1) := by decide +kernel
theorem d_Machine_faultOfPrimitive_148 : decode k_Machine_faultOfPrimitive 148 = .ok (.goto (5), 3) := by decide +kernel
theorem d_Machine_faultOfPrimitive_151 : decode k_Machine_faultOfPrimitive 151 = .ok (.bipush (-5), 2) := by decide +kernel
theorem d_Machine_faultOfPrimitive_153 : decode k_Machine_faultOfPrimitive 153 = .ok (.ireturn, 1) := by decide +kernel
theorem d_Machine_cellsOfCall_0 : decode k_Machine_cellsOfCall 0 = .ok (.iload_n 0, 1) := by decide +kernel
theorem d_Machine_cellsOfCall_1 : decode k_Machine_cellsOfCall 1 = .ok (.invokestatic 214, 3) := by decide +kernel
theorem d_Machine_cellsOfCall_4 : decode k_Machine_cellsOfCall 4 = .ok (.iconst 5, 1) := by decide +kernel
theorem d_Machine_cellsOfCall_5 : decode k_Machine_cellsOfCall 5 = .ok (.if_icmp .ne (9), 3) := by decide +kernel
theorem d_Machine_cellsOfCall_8 : decode k_Machine_cellsOfCall 8 = .ok (.iconst 2, 1) := by decide +kernel
theorem d_Machine_cellsOfCall_9 : decode k_Machine_cellsOfCall 9 = .ok (.iload_n 1, 1) := by decide +kernel
theorem d_Machine_cellsOfCall_10 : decode k_Machine_cellsOfCall 10 = .ok (.imul, 1) := by decide +kernel
theorem d_Machine_cellsOfCall_11 : decode k_Machine_cellsOfCall 11 = .ok (.iconst 2, 1) := by decide +kernel
theorem d_Machine_cellsOfCall_12 : decode k_Machine_cellsOfCall 12 = .ok (.imul, 1) := by decide +kernel
theorem d_Machine_cellsOfCall_13 : decode k_Machine_cellsOfCall 13 = .ok (.ireturn, 1) := by decide +kernel
theorem d_Machine_cellsOfCall_14 : decode k_Machine_cellsOfCall 14 = .ok (.iload_n 0, 1) := by decide +kernel
theorem d_Machine_cellsOfCall_15 : decode k_Machine_cellsOfCall 15 = .ok (.invokestatic 99, 3) := by decide +kernel
theorem d_Machine_cellsOfCall_18 : decode k_Machine_cellsOfCall 18 = .ok (.lookupswitch (32) #[(6, 26), (9, 28)], 26) := by decide +kernel
theorem d_Machine_cellsOfCall_44 : decode k_Machine_cellsOfCall 44 = .ok (.iconst 2, 1) := by decide +kernel
theorem d_Machine_cellsOfCall_45 : decode k_Machine_cellsOfCall 45 = .ok (.ireturn, 1) := by decide +kernel
theorem d_Machine_cellsOfCall_46 : decode k_Machine_cellsOfCall 46 = .ok (.iload_n 1, 1) := by decide +kernel
theorem d_Machine_cellsOfCall_47 : decode k_Machine_cellsOfCall 47 = .ok (.iconst 2, 1) := by decide +kernel
theorem d_Machine_cellsOfCall_48 : decode k_Machine_cellsOfCall 48 = .ok (.imul, 1) := by decide +kernel
theorem d_Machine_cellsOfCall_49 : decode k_Machine_cellsOfCall 49 = .ok (.ireturn, 1) := by decide +kernel
theorem d_Machine_cellsOfCall_50 : decode k_Machine_cellsOfCall 50 = .ok (.iconst 0, 1) := by decide +kernel
theorem d_Machine_cellsOfCall_51 : decode k_Machine_cellsOfCall 51 = .ok (.ireturn, 1) := by decide +kernel
theorem d_Machine_boundEnvironment_0 : decode k_Machine_boundEnvironment 0 = .ok (.aload_n 0, 1) := by decide +kernel
theorem d_Machine_boundEnvironment_1 : decode k_Machine_boundEnvironment 1 = .ok (.getfield 15, 3) := by decide +kernel
theorem d_Machine_boundEnvironment_4 : decode k_Machine_boundEnvironment 4 = .ok (.iload_n 1, 1) := by decide +kernel
theorem d_Machine_boundEnvironment_5 : decode k_Machine_boundEnvironment 5 = .ok (.invokevirtual 228, 3) := by decide +kernel
theorem d_Machine_boundEnvironment_8 : decode k_Machine_boundEnvironment 8 = .ok (.istore 4, 2) := by decide +kernel
theorem d_Machine_boundEnvironment_10 : decode k_Machine_boundEnvironment 10 = .ok (.aload_n 0, 1) := by decide +kernel
theorem d_Machine_boundEnvironment_11 : decode k_Machine_boundEnvironment 11 = .ok (.getfield 15, 3) := by decide +kernel
theorem d_Machine_boundEnvironment_14 : decode k_Machine_boundEnvironment 14 = .ok (.iload_n 1, 1) := by decide +kernel
theorem d_Machine_boundEnvironment_15 : decode k_Machine_boundEnvironment 15 = .ok (.invokevirtual 94, 3) := by decide +kernel
theorem d_Machine_boundEnvironment_18 : decode k_Machine_boundEnvironment 18 = .ok (.istore 5, 2) := by decide +kernel
theorem d_Machine_boundEnvironment_20 : decode k_Machine_boundEnvironment 20 = .ok (.iconst 0, 1) := by decide +kernel
theorem d_Machine_boundEnvironment_21 : decode k_Machine_boundEnvironment 21 = .ok (.istore 6, 2) := by decide +kernel
theorem d_Machine_boundEnvironment_23 : decode k_Machine_boundEnvironment 23 = .ok (.iload 6, 2) := by decide +kernel
theorem d_Machine_boundEnvironment_25 : decode k_Machine_boundEnvironment 25 = .ok (.iload_n 3, 1) := by decide +kernel
theorem d_Machine_boundEnvironment_26 : decode k_Machine_boundEnvironment 26 = .ok (.if_icmp .ge (76), 3) := by decide +kernel
theorem d_Machine_boundEnvironment_29 : decode k_Machine_boundEnvironment 29 = .ok (.aload_n 0, 1) := by decide +kernel
theorem d_Machine_boundEnvironment_30 : decode k_Machine_boundEnvironment 30 = .ok (.getfield 15, 3) := by decide +kernel
theorem d_Machine_boundEnvironment_33 : decode k_Machine_boundEnvironment 33 = .ok (.aload_n 0, 1) := by decide +kernel
theorem d_Machine_boundEnvironment_34 : decode k_Machine_boundEnvironment 34 = .ok (.getfield 15, 3) := by decide +kernel
theorem d_Machine_boundEnvironment_37 : decode k_Machine_boundEnvironment 37 = .ok (.iload_n 2, 1) := by decide +kernel
theorem d_Machine_boundEnvironment_38 : decode k_Machine_boundEnvironment 38 = .ok (.iload_n 3, 1) := by decide +kernel
theorem d_Machine_boundEnvironment_39 : decode k_Machine_boundEnvironment 39 = .ok (.iconst 1, 1) := by decide +kernel
theorem d_Machine_boundEnvironment_40 : decode k_Machine_boundEnvironment 40 = .ok (.isub, 1) := by decide +kernel
theorem d_Machine_boundEnvironment_41 : decode k_Machine_boundEnvironment 41 = .ok (.iload 6, 2) := by decide +kernel
theorem d_Machine_boundEnvironment_43 : decode k_Machine_boundEnvironment 43 = .ok (.isub, 1) := by decide +kernel
theorem d_Machine_boundEnvironment_44 : decode k_Machine_boundEnvironment 44 = .ok (.invokevirtual 133, 3) := by decide +kernel
theorem d_Machine_boundEnvironment_47 : decode k_Machine_boundEnvironment 47 = .ok (.invokevirtual 94, 3) := by decide +kernel
theorem d_Machine_boundEnvironment_50 : decode k_Machine_boundEnvironment 50 = .ok (.istore 7, 2) := by decide +kernel
theorem d_Machine_boundEnvironment_52 : decode k_Machine_boundEnvironment 52 = .ok (.aload_n 0, 1) := by decide +kernel
theorem d_Machine_boundEnvironment_53 : decode k_Machine_boundEnvironment 53 = .ok (.getfield 15, 3) := by decide +kernel
theorem d_Machine_boundEnvironment_56 : decode k_Machine_boundEnvironment 56 = .ok (.aload_n 0, 1) := by decide +kernel
theorem d_Machine_boundEnvironment_57 : decode k_Machine_boundEnvironment 57 = .ok (.getfield 15, 3) := by decide +kernel
theorem d_Machine_boundEnvironment_60 : decode k_Machine_boundEnvironment 60 = .ok (.iload 5, 2) := by decide +kernel
theorem d_Machine_boundEnvironment_62 : decode k_Machine_boundEnvironment 62 = .ok (.invokevirtual 94, 3) := by decide +kernel
theorem d_Machine_boundEnvironment_65 : decode k_Machine_boundEnvironment 65 = .ok (.iload 7, 2) := by decide +kernel
theorem d_Machine_boundEnvironment_67 : decode k_Machine_boundEnvironment 67 = .ok (.invokevirtual 199, 3) := by decide +kernel
theorem d_Machine_boundEnvironment_70 : decode k_Machine_boundEnvironment 70 = .ok (.istore 8, 2) := by decide +kernel
theorem d_Machine_boundEnvironment_72 : decode k_Machine_boundEnvironment 72 = .ok (.aload_n 0, 1) := by decide +kernel
theorem d_Machine_boundEnvironment_73 : decode k_Machine_boundEnvironment 73 = .ok (.getfield 15, 3) := by decide +kernel
theorem d_Machine_boundEnvironment_76 : decode k_Machine_boundEnvironment 76 = .ok (.iload 8, 2) := by decide +kernel
theorem d_Machine_boundEnvironment_78 : decode k_Machine_boundEnvironment 78 = .ok (.iload 4, 2) := by decide +kernel
theorem d_Machine_boundEnvironment_80 : decode k_Machine_boundEnvironment 80 = .ok (.invokevirtual 199, 3) := by decide +kernel
theorem d_Machine_boundEnvironment_83 : decode k_Machine_boundEnvironment 83 = .ok (.istore 4, 2) := by decide +kernel
theorem d_Machine_boundEnvironment_85 : decode k_Machine_boundEnvironment 85 = .ok (.aload_n 0, 1) := by decide +kernel
theorem d_Machine_boundEnvironment_86 : decode k_Machine_boundEnvironment 86 = .ok (.getfield 15, 3) := by decide +kernel
theorem d_Machine_boundEnvironment_89 : decode k_Machine_boundEnvironment 89 = .ok (.iload 5, 2) := by decide +kernel
theorem d_Machine_boundEnvironment_91 : decode k_Machine_boundEnvironment 91 = .ok (.invokevirtual 114, 3) := by decide +kernel
theorem d_Machine_boundEnvironment_94 : decode k_Machine_boundEnvironment 94 = .ok (.istore 5, 2) := by decide +kernel
theorem d_Machine_boundEnvironment_96 : decode k_Machine_boundEnvironment 96 = .ok (.iinc 6 1, 3) := by decide +kernel
theorem d_Machine_boundEnvironment_99 : decode k_Machine_boundEnvironment 99 = .ok (.goto (-76), 3) := by decide +kernel
theorem d_Machine_boundEnvironment_102 : decode k_Machine_boundEnvironment 102 = .ok (.iload 4, 2) := by decide +kernel
theorem d_Machine_boundEnvironment_104 : decode k_Machine_boundEnvironment 104 = .ok (.ireturn, 1) := by decide +kernel
theorem d_Machine_primitiveResult_0 : decode k_Machine_primitiveResult 0 = .ok (.aload_n 0, 1) := by decide +kernel
theorem d_Machine_primitiveResult_1 : decode k_Machine_primitiveResult 1 = .ok (.getfield 15, 3) := by decide +kernel
theorem d_Machine_primitiveResult_4 : decode k_Machine_primitiveResult 4 = .ok (.iload_n 2, 1) := by decide +kernel
theorem d_Machine_primitiveResult_5 : decode k_Machine_primitiveResult 5 = .ok (.invokevirtual 94, 3) := by decide +kernel
theorem d_Machine_primitiveResult_8 : decode k_Machine_primitiveResult 8 = .ok (.istore 4, 2) := by decide +kernel
theorem d_Machine_primitiveResult_10 : decode k_Machine_primitiveResult 10 = .ok (.aload_n 0, 1) := by decide +kernel
theorem d_Machine_primitiveResult_11 : decode k_Machine_primitiveResult 11 = .ok (.getfield 15, 3) := by decide +kernel
theorem d_Machine_primitiveResult_14 : decode k_Machine_primitiveResult 14 = .ok (.aload_n 0, 1) := by decide +kernel
theorem d_Machine_primitiveResult_15 : decode k_Machine_primitiveResult 15 = .ok (.getfield 15, 3) := by decide +kernel
theorem d_Machine_primitiveResult_18 : decode k_Machine_primitiveResult 18 = .ok (.iload_n 2, 1) := by decide +kernel
theorem d_Machine_primitiveResult_19 : decode k_Machine_primitiveResult 19 = .ok (.invokevirtual 114, 3) := by decide +kernel
theorem d_Machine_primitiveResult_22 : decode k_Machine_primitiveResult 22 = .ok (.invokevirtual 94, 3) := by decide +kernel
theorem d_Machine_primitiveResult_25 : decode k_Machine_primitiveResult 25 = .ok (.istore 5, 2) := by decide +kernel
theorem d_Machine_primitiveResult_27 : decode k_Machine_primitiveResult 27 = .ok (.iload_n 1, 1) := by decide +kernel
theorem d_Machine_primitiveResult_28 : decode k_Machine_primitiveResult 28 = .ok (.tableswitch (187) (0) (8) #[52, 68, 84, 100, 122, 138, 155, 167, 177], 52) := by decide +kernel
theorem d_Machine_primitiveResult_80 : decode k_Machine_primitiveResult 80 = .ok (.iconst 0, 1) := by decide +kernel
theorem d_Machine_primitiveResult_81 : decode k_Machine_primitiveResult 81 = .ok (.iload 5, 2) := by decide +kernel
theorem d_Machine_primitiveResult_83 : decode k_Machine_primitiveResult 83 = .ok (.invokestatic 99, 3) := by decide +kernel
theorem d_Machine_primitiveResult_86 : decode k_Machine_primitiveResult 86 = .ok (.iload 4, 2) := by decide +kernel
theorem d_Machine_primitiveResult_88 : decode k_Machine_primitiveResult 88 = .ok (.invokestatic 99, 3) := by decide +kernel
theorem d_Machine_primitiveResult_91 : decode k_Machine_primitiveResult 91 = .ok (.iadd, 1) := by decide +kernel
theorem d_Machine_primitiveResult_92 : decode k_Machine_primitiveResult 92 = .ok (.invokestatic 231, 3) := by decide +kernel
theorem d_Machine_primitiveResult_95 : decode k_Machine_primitiveResult 95 = .ok (.ireturn, 1) := by decide +kernel
theorem d_Machine_primitiveResult_96 : decode k_Machine_primitiveResult 96 = .ok (.iconst 0, 1) := by decide +kernel
theorem d_Machine_primitiveResult_97 : decode k_Machine_primitiveResult 97 = .ok (.iload 5, 2) := by decide +kernel
theorem d_Machine_primitiveResult_99 : decode k_Machine_primitiveResult 99 = .ok (.invokestatic 99, 3) := by decide +kernel
theorem d_Machine_primitiveResult_102 : decode k_Machine_primitiveResult 102 = .ok (.iload 4, 2) := by decide +kernel
theorem d_Machine_primitiveResult_104 : decode k_Machine_primitiveResult 104 = .ok (.invokestatic 99, 3) := by decide +kernel
theorem d_Machine_primitiveResult_107 : decode k_Machine_primitiveResult 107 = .ok (.isub, 1) := by decide +kernel
theorem d_Machine_primitiveResult_108 : decode k_Machine_primitiveResult 108 = .ok (.invokestatic 231, 3) := by decide +kernel
theorem d_Machine_primitiveResult_111 : decode k_Machine_primitiveResult 111 = .ok (.ireturn, 1) := by decide +kernel
theorem d_Machine_primitiveResult_112 : decode k_Machine_primitiveResult 112 = .ok (.iconst 0, 1) := by decide +kernel
theorem d_Machine_primitiveResult_113 : decode k_Machine_primitiveResult 113 = .ok (.iload 5, 2) := by decide +kernel
theorem d_Machine_primitiveResult_115 : decode k_Machine_primitiveResult 115 = .ok (.invokestatic 99, 3) := by decide +kernel
theorem d_Machine_primitiveResult_118 : decode k_Machine_primitiveResult 118 = .ok (.iload 4, 2) := by decide +kernel
theorem d_Machine_primitiveResult_120 : decode k_Machine_primitiveResult 120 = .ok (.invokestatic 99, 3) := by decide +kernel
theorem d_Machine_primitiveResult_123 : decode k_Machine_primitiveResult 123 = .ok (.imul, 1) := by decide +kernel
theorem d_Machine_primitiveResult_124 : decode k_Machine_primitiveResult 124 = .ok (.invokestatic 231, 3) := by decide +kernel
theorem d_Machine_primitiveResult_127 : decode k_Machine_primitiveResult 127 = .ok (.ireturn, 1) := by decide +kernel
theorem d_Machine_primitiveResult_128 : decode k_Machine_primitiveResult 128 = .ok (.iload 5, 2) := by decide +kernel
theorem d_Machine_primitiveResult_130 : decode k_Machine_primitiveResult 130 = .ok (.invokestatic 99, 3) := by decide +kernel
theorem d_Machine_primitiveResult_133 : decode k_Machine_primitiveResult 133 = .ok (.iload 4, 2) := by decide +kernel
theorem d_Machine_primitiveResult_135 : decode k_Machine_primitiveResult 135 = .ok (.invokestatic 99, 3) := by decide +kernel
theorem d_Machine_primitiveResult_138 : decode k_Machine_primitiveResult 138 = .ok (.if_icmp .ge (7), 3) := by decide +kernel
theorem d_Machine_primitiveResult_141 : decode k_Machine_primitiveResult 141 = .ok (.iconst 1, 1) := by decide +kernel
theorem d_Machine_primitiveResult_142 : decode k_Machine_primitiveResult 142 = .ok (.goto (4), 3) := by decide +kernel
theorem d_Machine_primitiveResult_145 : decode k_Machine_primitiveResult 145 = .ok (.iconst 0, 1) := by decide +kernel
theorem d_Machine_primitiveResult_146 : decode k_Machine_primitiveResult 146 = .ok (.invokestatic 234, 3) := by decide +kernel
theorem d_Machine_primitiveResult_149 : decode k_Machine_primitiveResult 149 = .ok (.ireturn, 1) := by decide +kernel
theorem d_Machine_primitiveResult_150 : decode k_Machine_primitiveResult 150 = .ok (.iload 5, 2) := by decide +kernel
theorem d_Machine_primitiveResult_152 : decode k_Machine_primitiveResult 152 = .ok (.iload 4, 2) := by decide +kernel
theorem d_Machine_primitiveResult_154 : decode k_Machine_primitiveResult 154 = .ok (.if_icmp .ne (7), 3) := by decide +kernel
theorem d_Machine_primitiveResult_157 : decode k_Machine_primitiveResult 157 = .ok (.iconst 1, 1) := by decide +kernel
theorem d_Machine_primitiveResult_158 : decode k_Machine_primitiveResult 158 = .ok (.goto (4), 3) := by decide +kernel
theorem d_Machine_primitiveResult_161 : decode k_Machine_primitiveResult 161 = .ok (.iconst 0, 1) := by decide +kernel
theorem d_Machine_primitiveResult_162 : decode k_Machine_primitiveResult 162 = .ok (.invokestatic 234, 3) := by decide +kernel
theorem d_Machine_primitiveResult_165 : decode k_Machine_primitiveResult 165 = .ok (.ireturn, 1) := by decide +kernel
theorem d_Machine_primitiveResult_166 : decode k_Machine_primitiveResult 166 = .ok (.iload 4, 2) := by decide +kernel
theorem d_Machine_primitiveResult_168 : decode k_Machine_primitiveResult 168 = .ok (.invokestatic 87, 3) := by decide +kernel
theorem d_Machine_primitiveResult_171 : decode k_Machine_primitiveResult 171 = .ok (.ifCond .ne (7), 3) := by decide +kernel
theorem d_Machine_primitiveResult_174 : decode k_Machine_primitiveResult 174 = .ok (.iconst 1, 1) := by decide +kernel
theorem d_Machine_primitiveResult_175 : decode k_Machine_primitiveResult 175 = .ok (.goto (4), 3) := by decide +kernel
theorem d_Machine_primitiveResult_178 : decode k_Machine_primitiveResult 178 = .ok (.iconst 0, 1) := by decide +kernel
theorem d_Machine_primitiveResult_179 : decode k_Machine_primitiveResult 179 = .ok (.invokestatic 234, 3) := by decide +kernel
theorem d_Machine_primitiveResult_182 : decode k_Machine_primitiveResult 182 = .ok (.ireturn, 1) := by decide +kernel
theorem d_Machine_primitiveResult_183 : decode k_Machine_primitiveResult 183 = .ok (.aload_n 0, 1) := by decide +kernel
theorem d_Machine_primitiveResult_184 : decode k_Machine_primitiveResult 184 = .ok (.getfield 15, 3) := by decide +kernel
theorem d_Machine_primitiveResult_187 : decode k_Machine_primitiveResult 187 = .ok (.iload 5, 2) := by decide +kernel
theorem d_Machine_primitiveResult_189 : decode k_Machine_primitiveResult 189 = .ok (.iload 4, 2) := by decide +kernel
theorem d_Machine_primitiveResult_191 : decode k_Machine_primitiveResult 191 = .ok (.invokevirtual 199, 3) := by decide +kernel
theorem d_Machine_primitiveResult_194 : decode k_Machine_primitiveResult 194 = .ok (.ireturn, 1) := by decide +kernel
theorem d_Machine_primitiveResult_195 : decode k_Machine_primitiveResult 195 = .ok (.aload_n 0, 1) := by decide +kernel
theorem d_Machine_primitiveResult_196 : decode k_Machine_primitiveResult 196 = .ok (.getfield 15, 3) := by decide +kernel
theorem d_Machine_primitiveResult_199 : decode k_Machine_primitiveResult 199 = .ok (.iload 4, 2) := by decide +kernel
theorem d_Machine_primitiveResult_201 : decode k_Machine_primitiveResult 201 = .ok (.invokevirtual 94, 3) := by decide +kernel
theorem d_Machine_primitiveResult_204 : decode k_Machine_primitiveResult 204 = .ok (.ireturn, 1) := by decide +kernel
theorem d_Machine_primitiveResult_205 : decode k_Machine_primitiveResult 205 = .ok (.aload_n 0, 1) := by decide +kernel
theorem d_Machine_primitiveResult_206 : decode k_Machine_primitiveResult 206 = .ok (.getfield 15, 3) := by decide +kernel
theorem d_Machine_primitiveResult_209 : decode k_Machine_primitiveResult 209 = .ok (.iload 4, 2) := by decide +kernel
theorem d_Machine_primitiveResult_211 : decode k_Machine_primitiveResult 211 = .ok (.invokevirtual 114, 3) := by decide +kernel
theorem d_Machine_primitiveResult_214 : decode k_Machine_primitiveResult 214 = .ok (.ireturn, 1) := by decide +kernel
theorem d_Machine_primitiveResult_215 : decode k_Machine_primitiveResult 215 = .ok (.aload_n 0, 1) := by decide +kernel
theorem d_Machine_primitiveResult_216 : decode k_Machine_primitiveResult 216 = .ok (.iload_n 2, 1) := by decide +kernel
theorem d_Machine_primitiveResult_217 : decode k_Machine_primitiveResult 217 = .ok (.iload_n 3, 1) := by decide +kernel
theorem d_Machine_primitiveResult_218 : decode k_Machine_primitiveResult 218 = .ok (.invokevirtual 238, 3) := by decide +kernel
theorem d_Machine_primitiveResult_221 : decode k_Machine_primitiveResult 221 = .ok (.ireturn, 1) := by decide +kernel
theorem d_Machine_truth_0 : decode k_Machine_truth 0 = .ok (.iload_n 0, 1) := by decide +kernel
theorem d_Machine_truth_1 : decode k_Machine_truth 1 = .ok (.ifCond .eq (12), 3) := by decide +kernel
theorem d_Machine_truth_4 : decode k_Machine_truth 4 = .ok (.iconst 1, 1) := by decide +kernel
theorem d_Machine_truth_5 : decode k_Machine_truth 5 = .ok (.bipush 15, 2) := by decide +kernel
theorem d_Machine_truth_7 : decode k_Machine_truth 7 = .ok (.invokestatic 231, 3) := by decide +kernel
theorem d_Machine_truth_10 : decode k_Machine_truth 10 = .ok (.goto (4), 3) := by decide +kernel
theorem d_Machine_truth_13 : decode k_Machine_truth 13 = .ok (.iconst 2, 1) := by decide +kernel
theorem d_Machine_truth_14 : decode k_Machine_truth 14 = .ok (.ireturn, 1) := by decide +kernel
theorem d_Machine_listOf_0 : decode k_Machine_listOf 0 = .ok (.iconst 2, 1) := by decide +kernel
theorem d_Machine_listOf_1 : decode k_Machine_listOf 1 = .ok (.istore_n 3, 1) := by decide +kernel
theorem d_Machine_listOf_2 : decode k_Machine_listOf 2 = .ok (.iload_n 1, 1) := by decide +kernel
theorem d_Machine_listOf_3 : decode k_Machine_listOf 3 = .ok (.istore 4, 2) := by decide +kernel
theorem d_Machine_listOf_5 : decode k_Machine_listOf 5 = .ok (.iconst 0, 1) := by decide +kernel
theorem d_Machine_listOf_6 : decode k_Machine_listOf 6 = .ok (.istore 5, 2) := by decide +kernel
theorem d_Machine_listOf_8 : decode k_Machine_listOf 8 = .ok (.iload 5, 2) := by decide +kernel
theorem d_Machine_listOf_10 : decode k_Machine_listOf 10 = .ok (.iload_n 2, 1) := by decide +kernel
theorem d_Machine_listOf_11 : decode k_Machine_listOf 11 = .ok (.if_icmp .ge (46), 3) := by decide +kernel
theorem d_Machine_listOf_14 : decode k_Machine_listOf 14 = .ok (.iload 4, 2) := by decide +kernel
theorem d_Machine_listOf_16 : decode k_Machine_listOf 16 = .ok (.invokestatic 87, 3) := by decide +kernel
theorem d_Machine_listOf_19 : decode k_Machine_listOf 19 = .ok (.ifCond .eq (38), 3) := by decide +kernel
theorem d_Machine_listOf_22 : decode k_Machine_listOf 22 = .ok (.aload_n 0, 1) := by decide +kernel
theorem d_Machine_listOf_23 : decode k_Machine_listOf 23 = .ok (.getfield 15, 3) := by decide +kernel
theorem d_Machine_listOf_26 : decode k_Machine_listOf 26 = .ok (.aload_n 0, 1) := by decide +kernel
theorem d_Machine_listOf_27 : decode k_Machine_listOf 27 = .ok (.getfield 15, 3) := by decide +kernel
theorem d_Machine_listOf_30 : decode k_Machine_listOf 30 = .ok (.iload 4, 2) := by decide +kernel
theorem d_Machine_listOf_32 : decode k_Machine_listOf 32 = .ok (.invokevirtual 94, 3) := by decide +kernel
theorem d_Machine_listOf_35 : decode k_Machine_listOf 35 = .ok (.iload_n 3, 1) := by decide +kernel
theorem d_Machine_listOf_36 : decode k_Machine_listOf 36 = .ok (.invokevirtual 199, 3) := by decide +kernel
theorem d_Machine_listOf_39 : decode k_Machine_listOf 39 = .ok (.istore_n 3, 1) := by decide +kernel
theorem d_Machine_listOf_40 : decode k_Machine_listOf 40 = .ok (.aload_n 0, 1) := by decide +kernel
theorem d_Machine_listOf_41 : decode k_Machine_listOf 41 = .ok (.getfield 15, 3) := by decide +kernel
theorem d_Machine_listOf_44 : decode k_Machine_listOf 44 = .ok (.iload 4, 2) := by decide +kernel
theorem d_Machine_listOf_46 : decode k_Machine_listOf 46 = .ok (.invokevirtual 114, 3) := by decide +kernel
theorem d_Machine_listOf_49 : decode k_Machine_listOf 49 = .ok (.istore 4, 2) := by decide +kernel
theorem d_Machine_listOf_51 : decode k_Machine_listOf 51 = .ok (.iinc 5 1, 3) := by decide +kernel
theorem d_Machine_listOf_54 : decode k_Machine_listOf 54 = .ok (.goto (-46), 3) := by decide +kernel
theorem d_Machine_listOf_57 : decode k_Machine_listOf 57 = .ok (.iload_n 3, 1) := by decide +kernel
theorem d_Machine_listOf_58 : decode k_Machine_listOf 58 = .ok (.ireturn, 1) := by decide +kernel
theorem d_Reader_read_0 : decode k_Reader_read 0 = .ok (.aload_n 0, 1) := by decide +kernel
theorem d_Reader_read_1 : decode k_Reader_read 1 = .ok (.invokevirtual 40, 3) := by decide +kernel
theorem d_Reader_read_4 : decode k_Reader_read 4 = .ok (.istore_n 1, 1) := by decide +kernel
theorem d_Reader_read_5 : decode k_Reader_read 5 = .ok (.iload_n 1, 1) := by decide +kernel
theorem d_Reader_read_6 : decode k_Reader_read 6 = .ok (.ifCond .ne (13), 3) := by decide +kernel
theorem d_Reader_read_9 : decode k_Reader_read 9 = .ok (.aload_n 0, 1) := by decide +kernel
theorem d_Reader_read_10 : decode k_Reader_read 10 = .ok (.invokevirtual 44, 3) := by decide +kernel
theorem d_Reader_read_13 : decode k_Reader_read 13 = .ok (.ifCond .ne (6), 3) := by decide +kernel
theorem d_Reader_read_16 : decode k_Reader_read 16 = .ok (.bipush (-8), 2) := by decide +kernel
theorem d_Reader_read_18 : decode k_Reader_read 18 = .ok (.istore_n 1, 1) := by decide +kernel
theorem d_Reader_read_19 : decode k_Reader_read 19 = .ok (.iload_n 1, 1) := by decide +kernel
theorem d_Reader_read_20 : decode k_Reader_read 20 = .ok (.ifCond .ne (20), 3) := by decide +kernel
theorem d_Reader_read_23 : decode k_Reader_read 23 = .ok (.aload_n 0, 1) := by decide +kernel
theorem d_Reader_read_24 : decode k_Reader_read 24 = .ok (.getfield 36, 3) := by decide +kernel
theorem d_Reader_read_27 : decode k_Reader_read 27 = .ok (.aload_n 0, 1) := by decide +kernel
theorem d_Reader_read_28 : decode k_Reader_read 28 = .ok (.getfield 48, 3) := by decide +kernel
theorem d_Reader_read_31 : decode k_Reader_read 31 = .ok (.invokevirtual 51, 3) := by decide +kernel
theorem d_Reader_read_34 : decode k_Reader_read 34 = .ok (.ifCond .ne (6), 3) := by decide +kernel
theorem d_Reader_read_37 : decode k_Reader_read 37 = .ok (.bipush (-7), 2) := by decide +kernel
theorem d_Reader_read_39 : decode k_Reader_read 39 = .ok (.istore_n 1, 1) := by decide +kernel
theorem d_Reader_read_40 : decode k_Reader_read 40 = .ok (.iload_n 1, 1) := by decide +kernel
theorem d_Reader_read_41 : decode k_Reader_read 41 = .ok (.ifCond .ne (7), 3) := by decide +kernel
theorem d_Reader_read_44 : decode k_Reader_read 44 = .ok (.aload_n 0, 1) := by decide +kernel
theorem d_Reader_read_45 : decode k_Reader_read 45 = .ok (.invokevirtual 57, 3) := by decide +kernel
theorem d_Reader_read_48 : decode k_Reader_read 48 = .ok (.iload_n 1, 1) := by decide +kernel
theorem d_Reader_read_49 : decode k_Reader_read 49 = .ok (.iconst 2, 1) := by decide +kernel
theorem d_Reader_read_50 : decode k_Reader_read 50 = .ok (.if_icmp .eq (14), 3) := by decide +kernel
theorem d_Reader_read_53 : decode k_Reader_read 53 = .ok (.aload_n 0, 1) := by decide +kernel
theorem d_Reader_read_54 : decode k_Reader_read 54 = .ok (.getfield 28, 3) := by decide +kernel
theorem d_Reader_read_57 : decode k_Reader_read 57 = .ok (.aload_n 0, 1) := by decide +kernel
theorem d_Reader_read_58 : decode k_Reader_read 58 = .ok (.getfield 60, 3) := by decide +kernel
theorem d_Reader_read_61 : decode k_Reader_read 61 = .ok (.invokevirtual 63, 3) := by decide +kernel
theorem d_Reader_read_64 : decode k_Reader_read 64 = .ok (.iload_n 1, 1) := by decide +kernel
theorem d_Reader_read_65 : decode k_Reader_read 65 = .ok (.ireturn, 1) := by decide +kernel
theorem d_Reader_findForm_0 : decode k_Reader_findForm 0 = .ok (.iconst 0, 1) := by decide +kernel
theorem d_Reader_findForm_1 : decode k_Reader_findForm 1 = .ok (.istore_n 1, 1) := by decide +kernel
theorem d_Reader_findForm_2 : decode k_Reader_findForm 2 = .ok (.iconst 0, 1) := by decide +kernel
theorem d_Reader_findForm_3 : decode k_Reader_findForm 3 = .ok (.istore_n 2, 1) := by decide +kernel
theorem d_Reader_findForm_4 : decode k_Reader_findForm 4 = .ok (.iconst 0, 1) := by decide +kernel
theorem d_Reader_findForm_5 : decode k_Reader_findForm 5 = .ok (.istore_n 3, 1) := by decide +kernel
theorem d_Reader_findForm_6 : decode k_Reader_findForm 6 = .ok (.aload_n 0, 1) := by decide +kernel
theorem d_Reader_findForm_7 : decode k_Reader_findForm 7 = .ok (.iconst 0, 1) := by decide +kernel
theorem d_Reader_findForm_8 : decode k_Reader_findForm 8 = .ok (.putfield 48, 3) := by decide +kernel
theorem d_Reader_findForm_11 : decode k_Reader_findForm 11 = .ok (.iconst 0, 1) := by decide +kernel
theorem d_Reader_findForm_12 : decode k_Reader_findForm 12 = .ok (.istore 4, 2) := by decide +kernel
theorem d_Reader_findForm_14 : decode k_Reader_findForm 14 = .ok (.iload 4, 2) := by decide +kernel
theorem d_Reader_findForm_16 : decode k_Reader_findForm 16 = .ok (.bipush 120, 2) := by decide +kernel
theorem d_Reader_findForm_18 : decode k_Reader_findForm 18 = .ok (.if_icmp .ge (155), 3) := by decide +kernel
theorem d_Reader_findForm_21 : decode k_Reader_findForm 21 = .ok (.iload_n 3, 1) := by decide +kernel
theorem d_Reader_findForm_22 : decode k_Reader_findForm 22 = .ok (.aload_n 0, 1) := by decide +kernel
theorem d_Reader_findForm_23 : decode k_Reader_findForm 23 = .ok (.getfield 28, 3) := by decide +kernel
theorem d_Reader_findForm_26 : decode k_Reader_findForm 26 = .ok (.getfield 69, 3) := by decide +kernel
theorem d_Reader_findForm_29 : decode k_Reader_findForm 29 = .ok (.if_icmp .ge (144), 3) := by decide +kernel
theorem d_Reader_findForm_32 : decode k_Reader_findForm 32 = .ok (.aload_n 0, 1) := by decide +kernel
theorem d_Reader_findForm_33 : decode k_Reader_findForm 33 = .ok (.getfield 28, 3) := by decide +kernel
theorem d_Reader_findForm_36 : decode k_Reader_findForm 36 = .ok (.iload_n 3, 1) := by decide +kernel
theorem d_Reader_findForm_37 : decode k_Reader_findForm 37 = .ok (.invokevirtual 72, 3) := by decide +kernel
theorem d_Reader_findForm_40 : decode k_Reader_findForm 40 = .ok (.istore 5, 2) := by decide +kernel
theorem d_Reader_findForm_42 : decode k_Reader_findForm 42 = .ok (.aload_n 0, 1) := by decide +kernel
theorem d_Reader_findForm_43 : decode k_Reader_findForm 43 = .ok (.aload_n 0, 1) := by decide +kernel
theorem d_Reader_findForm_44 : decode k_Reader_findForm 44 = .ok (.getfield 28, 3) := by decide +kernel
theorem d_Reader_findForm_47 : decode k_Reader_findForm 47 = .ok (.iload_n 3, 1) := by decide +kernel
theorem d_Reader_findForm_48 : decode k_Reader_findForm 48 = .ok (.invokevirtual 76, 3) := by decide +kernel
theorem d_Reader_findForm_51 : decode k_Reader_findForm 51 = .ok (.putfield 60, 3) := by decide +kernel
theorem d_Reader_findForm_54 : decode k_Reader_findForm 54 = .ok (.aload_n 0, 1) := by decide +kernel
theorem d_Reader_findForm_55 : decode k_Reader_findForm 55 = .ok (.getfield 60, 3) := by decide +kernel
theorem d_Reader_findForm_58 : decode k_Reader_findForm 58 = .ok (.istore_n 3, 1) := by decide +kernel
theorem d_Reader_findForm_59 : decode k_Reader_findForm 59 = .ok (.iload 5, 2) := by decide +kernel
theorem d_Reader_findForm_61 : decode k_Reader_findForm 61 = .ok (.invokestatic 80, 3) := by decide +kernel
theorem d_Reader_findForm_64 : decode k_Reader_findForm 64 = .ok (.ifCond .eq (6), 3) := by decide +kernel
theorem d_Reader_findForm_67 : decode k_Reader_findForm 67 = .ok (.goto (100), 3) := by decide +kernel
theorem d_Reader_findForm_70 : decode k_Reader_findForm 70 = .ok (.iload 5, 2) := by decide +kernel
theorem d_Reader_findForm_72 : decode k_Reader_findForm 72 = .ok (.iload_n 1, 1) := by decide +kernel
theorem d_Reader_findForm_73 : decode k_Reader_findForm 73 = .ok (.iload_n 2, 1) := by decide +kernel
theorem d_Reader_findForm_74 : decode k_Reader_findForm 74 = .ok (.invokestatic 84, 3) := by decide +kernel
theorem d_Reader_findForm_77 : decode k_Reader_findForm 77 = .ok (.ifCond .eq (5), 3) := by decide +kernel
theorem d_Reader_findForm_80 : decode k_Reader_findForm 80 = .ok (.iconst (-1), 1) := by decide +kernel
theorem d_Reader_findForm_81 : decode k_Reader_findForm 81 = .ok (.ireturn, 1) := by decide +kernel
theorem d_Reader_findForm_82 : decode k_Reader_findForm 82 = .ok (.aload_n 0, 1) := by decide +kernel
theorem d_Reader_findForm_83 : decode k_Reader_findForm 83 = .ok (.dup, 1) := by decide +kernel
theorem d_Reader_findForm_84 : decode k_Reader_findForm 84 = .ok (.getfield 48, 3) := by decide +kernel
theorem d_Reader_findForm_87 : decode k_Reader_findForm 87 = .ok (.iload 5, 2) := by decide +kernel
theorem d_Reader_findForm_89 : decode k_Reader_findForm 89 = .ok (.iload_n 1, 1) := by decide +kernel
theorem d_Reader_findForm_90 : decode k_Reader_findForm 90 = .ok (.iload_n 2, 1) := by decide +kernel
theorem d_Reader_findForm_91 : decode k_Reader_findForm 91 = .ok (.invokestatic 88, 3) := by decide +kernel
theorem d_Reader_findForm_94 : decode k_Reader_findForm 94 = .ok (.iadd, 1) := by decide +kernel
theorem d_Reader_findForm_95 : decode k_Reader_findForm 95 = .ok (.putfield 48, 3) := by decide +kernel
theorem d_Reader_findForm_98 : decode k_Reader_findForm 98 = .ok (.iload 5, 2) := by decide +kernel
theorem d_Reader_findForm_100 : decode k_Reader_findForm 100 = .ok (.bipush 39, 2) := by decide +kernel
theorem d_Reader_findForm_102 : decode k_Reader_findForm 102 = .ok (.if_icmp .ne (7), 3) := by decide +kernel
theorem d_Reader_findForm_105 : decode k_Reader_findForm 105 = .ok (.iconst 1, 1) := by decide +kernel
theorem d_Reader_findForm_106 : decode k_Reader_findForm 106 = .ok (.goto (4), 3) := by decide +kernel
theorem d_Reader_findForm_109 : decode k_Reader_findForm 109 = .ok (.iconst 0, 1) := by decide +kernel
theorem d_Reader_findForm_110 : decode k_Reader_findForm 110 = .ok (.istore_n 2, 1) := by decide +kernel
theorem d_Reader_findForm_111 : decode k_Reader_findForm 111 = .ok (.iload 5, 2) := by decide +kernel
theorem d_Reader_findForm_113 : decode k_Reader_findForm 113 = .ok (.bipush 40, 2) := by decide +kernel
theorem d_Reader_findForm_115 : decode k_Reader_findForm 115 = .ok (.if_icmp .ne (9), 3) := by decide +kernel
theorem d_Reader_findForm_118 : decode k_Reader_findForm 118 = .ok (.iinc 1 1, 3) := by decide +kernel
theorem d_Reader_findForm_121 : decode k_Reader_findForm 121 = .ok (.goto (36), 3) := by decide +kernel
theorem d_Reader_findForm_124 : decode k_Reader_findForm 124 = .ok (.iload 5, 2) := by decide +kernel
theorem d_Reader_findForm_126 : decode k_Reader_findForm 126 = .ok (.bipush 41, 2) := by decide +kernel
theorem d_Reader_findForm_128 : decode k_Reader_findForm 128 = .ok (.if_icmp .ne (9), 3) := by decide +kernel
theorem d_Reader_findForm_131 : decode k_Reader_findForm 131 = .ok (.iinc 1 (-1), 3) := by decide +kernel
theorem d_Reader_findForm_134 : decode k_Reader_findForm 134 = .ok (.goto (23), 3) := by decide +kernel
theorem d_Reader_findForm_137 : decode k_Reader_findForm 137 = .ok (.iload_n 2, 1) := by decide +kernel
theorem d_Reader_findForm_138 : decode k_Reader_findForm 138 = .ok (.ifCond .ne (19), 3) := by decide +kernel
theorem d_Reader_findForm_141 : decode k_Reader_findForm 141 = .ok (.aload_n 0, 1) := by decide +kernel
theorem d_Reader_findForm_142 : decode k_Reader_findForm 142 = .ok (.getfield 60, 3) := by decide +kernel
theorem d_Reader_findForm_145 : decode k_Reader_findForm 145 = .ok (.aload_n 0, 1) := by decide +kernel
theorem d_Reader_findForm_146 : decode k_Reader_findForm 146 = .ok (.getfield 28, 3) := by decide +kernel
theorem d_Reader_findForm_149 : decode k_Reader_findForm 149 = .ok (.getfield 69, 3) := by decide +kernel
theorem d_Reader_findForm_152 : decode k_Reader_findForm 152 = .ok (.if_icmp .lt (5), 3) := by decide +kernel
theorem d_Reader_findForm_155 : decode k_Reader_findForm 155 = .ok (.iconst 2, 1) := by decide +kernel
theorem d_Reader_findForm_156 : decode k_Reader_findForm 156 = .ok (.ireturn, 1) := by decide +kernel
theorem d_Reader_findForm_157 : decode k_Reader_findForm 157 = .ok (.iload_n 1, 1) := by decide +kernel
theorem d_Reader_findForm_158 : decode k_Reader_findForm 158 = .ok (.ifCond .ne (9), 3) := by decide +kernel
theorem d_Reader_findForm_161 : decode k_Reader_findForm 161 = .ok (.iload_n 2, 1) := by decide +kernel
theorem d_Reader_findForm_162 : decode k_Reader_findForm 162 = .ok (.ifCond .ne (5), 3) := by decide +kernel
theorem d_Reader_findForm_165 : decode k_Reader_findForm 165 = .ok (.iconst 0, 1) := by decide +kernel
theorem d_Reader_findForm_166 : decode k_Reader_findForm 166 = .ok (.ireturn, 1) := by decide +kernel
theorem d_Reader_findForm_167 : decode k_Reader_findForm 167 = .ok (.iinc 4 1, 3) := by decide +kernel
theorem d_Reader_findForm_170 : decode k_Reader_findForm 170 = .ok (.goto (-156), 3) := by decide +kernel
theorem d_Reader_findForm_173 : decode k_Reader_findForm 173 = .ok (.iconst 2, 1) := by decide +kernel
theorem d_Reader_findForm_174 : decode k_Reader_findForm 174 = .ok (.ireturn, 1) := by decide +kernel
theorem d_Reader_isFault_0 : decode k_Reader_isFault 0 = .ok (.iload_n 0, 1) := by decide +kernel
theorem d_Reader_isFault_1 : decode k_Reader_isFault 1 = .ok (.tableswitch (55) (39) (41) #[53, 27, 39], 27) := by decide +kernel
theorem d_Reader_isFault_28 : decode k_Reader_isFault 28 = .ok (.iload_n 1, 1) := by decide +kernel
theorem d_Reader_isFault_29 : decode k_Reader_isFault 29 = .ok (.bipush 10, 2) := by decide +kernel
theorem d_Reader_isFault_31 : decode k_Reader_isFault 31 = .ok (.if_icmp .lt (7), 3) := by decide +kernel
theorem d_Reader_isFault_34 : decode k_Reader_isFault 34 = .ok (.iconst 1, 1) := by decide +kernel
theorem d_Reader_isFault_35 : decode k_Reader_isFault 35 = .ok (.goto (4), 3) := by decide +kernel
theorem d_Reader_isFault_38 : decode k_Reader_isFault 38 = .ok (.iconst 0, 1) := by decide +kernel
theorem d_Reader_isFault_39 : decode k_Reader_isFault 39 = .ok (.ireturn, 1) := by decide +kernel
theorem d_Reader_isFault_40 : decode k_Reader_isFault 40 = .ok (.iload_n 2, 1) := by decide +kernel
theorem d_Reader_isFault_41 : decode k_Reader_isFault 41 = .ok (.ifCond .ne (7), 3) := by decide +kernel
theorem d_Reader_isFault_44 : decode k_Reader_isFault 44 = .ok (.iload_n 1, 1) := by decide +kernel
theorem d_Reader_isFault_45 : decode k_Reader_isFault 45 = .ok (.ifCond .ne (7), 3) := by decide +kernel
theorem d_Reader_isFault_48 : decode k_Reader_isFault 48 = .ok (.iconst 1, 1) := by decide +kernel
theorem d_Reader_isFault_49 : decode k_Reader_isFault 49 = .ok (.goto (4), 3) := by decide +kernel
theorem d_Reader_isFault_52 : decode k_Reader_isFault 52 = .ok (.iconst 0, 1) := by decide +kernel
theorem d_Reader_isFault_53 : decode k_Reader_isFault 53 = .ok (.ireturn, 1) := by decide +kernel
theorem d_Reader_isFault_54 : decode k_Reader_isFault 54 = .ok (.iload_n 2, 1) := by decide +kernel
theorem d_Reader_isFault_55 : decode k_Reader_isFault 55 = .ok (.ireturn, 1) := by decide +kernel
theorem d_Reader_isFault_56 : decode k_Reader_isFault 56 = .ok (.iconst 0, 1) := by decide +kernel
theorem d_Reader_isFault_57 : decode k_Reader_isFault 57 = .ok (.ireturn, 1) := by decide +kernel
theorem d_Reader_cellsOfPiece_0 : decode k_Reader_cellsOfPiece 0 = .ok (.iload_n 0, 1) := by decide +kernel
theorem d_Reader_cellsOfPiece_1 : decode k_Reader_cellsOfPiece 1 = .ok (.bipush 39, 2) := by decide +kernel
theorem d_Reader_cellsOfPiece_3 : decode k_Reader_cellsOfPiece 3 = .ok (.if_icmp .ne (7), 3) := by decide +kernel
theorem d_Reader_cellsOfPiece_6 : decode k_Reader_cellsOfPiece 6 = .ok (.iconst 2, 1) := by decide +kernel
theorem d_Reader_cellsOfPiece_7 : decode k_Reader_cellsOfPiece 7 = .ok (.goto (4), 3) := by decide +kernel
theorem d_Reader_cellsOfPiece_10 : decode k_Reader_cellsOfPiece 10 = .ok (.iconst 0, 1) := by decide +kernel
theorem d_Reader_cellsOfPiece_11 : decode k_Reader_cellsOfPiece 11 = .ok (.istore_n 3, 1) := by decide +kernel
theorem d_Reader_cellsOfPiece_12 : decode k_Reader_cellsOfPiece 12 = .ok (.iload_n 1, 1) := by decide +kernel
theorem d_Reader_cellsOfPiece_13 : decode k_Reader_cellsOfPiece 13 = .ok (.ifCond .le (16), 3) := by decide +kernel
theorem d_Reader_cellsOfPiece_16 : decode k_Reader_cellsOfPiece 16 = .ok (.iload_n 2, 1) := by decide +kernel
theorem d_Reader_cellsOfPiece_17 : decode k_Reader_cellsOfPiece 17 = .ok (.ifCond .ne (12), 3) := by decide +kernel
theorem d_Reader_cellsOfPiece_20 : decode k_Reader_cellsOfPiece 20 = .ok (.iload_n 0, 1) := by decide +kernel
theorem d_Reader_cellsOfPiece_21 : decode k_Reader_cellsOfPiece 21 = .ok (.bipush 41, 2) := by decide +kernel
theorem d_Reader_cellsOfPiece_23 : decode k_Reader_cellsOfPiece 23 = .ok (.if_icmp .eq (6), 3) := by decide +kernel
theorem d_Reader_cellsOfPiece_26 : decode k_Reader_cellsOfPiece 26 = .ok (.iinc 3 1, 3) := by decide +kernel
theorem d_Reader_cellsOfPiece_29 : decode k_Reader_cellsOfPiece 29 = .ok (.iload_n 3, 1) := by decide +kernel
theorem d_Reader_cellsOfPiece_30 : decode k_Reader_cellsOfPiece 30 = .ok (.iconst 2, 1) := by decide +kernel
theorem d_Reader_cellsOfPiece_31 : decode k_Reader_cellsOfPiece 31 = .ok (.imul, 1) := by decide +kernel
theorem d_Reader_cellsOfPiece_32 : decode k_Reader_cellsOfPiece 32 = .ok (.ireturn, 1) := by decide +kernel
theorem d_Reader_learnSymbols_0 : decode k_Reader_learnSymbols 0 = .ok (.iconst 0, 1) := by decide +kernel
theorem d_Reader_learnSymbols_1 : decode k_Reader_learnSymbols 1 = .ok (.istore_n 1, 1) := by decide +kernel
theorem d_Reader_learnSymbols_2 : decode k_Reader_learnSymbols 2 = .ok (.iconst 0, 1) := by decide +kernel
theorem d_Reader_learnSymbols_3 : decode k_Reader_learnSymbols 3 = .ok (.istore_n 2, 1) := by decide +kernel
theorem d_Reader_learnSymbols_4 : decode k_Reader_learnSymbols 4 = .ok (.iload_n 2, 1) := by decide +kernel
theorem d_Reader_learnSymbols_5 : decode k_Reader_learnSymbols 5 = .ok (.bipush 120, 2) := by decide +kernel
theorem d_Reader_learnSymbols_7 : decode k_Reader_learnSymbols 7 = .ok (.if_icmp .ge (58), 3) := by decide +kernel
theorem d_Reader_learnSymbols_10 : decode k_Reader_learnSymbols 10 = .ok (.iload_n 1, 1) := by decide +kernel
theorem d_Reader_learnSymbols_11 : decode k_Reader_learnSymbols 11 = .ok (.aload_n 0, 1) := by decide +kernel
theorem d_Reader_learnSymbols_12 : decode k_Reader_learnSymbols 12 = .ok (.getfield 60, 3) := by decide +kernel
theorem d_Reader_learnSymbols_15 : decode k_Reader_learnSymbols 15 = .ok (.if_icmp .ge (50), 3) := by decide +kernel
theorem d_Reader_learnSymbols_18 : decode k_Reader_learnSymbols 18 = .ok (.aload_n 0, 1) := by decide +kernel
theorem d_Reader_learnSymbols_19 : decode k_Reader_learnSymbols 19 = .ok (.getfield 28, 3) := by decide +kernel
theorem d_Reader_learnSymbols_22 : decode k_Reader_learnSymbols 22 = .ok (.iload_n 1, 1) := by decide +kernel
theorem d_Reader_learnSymbols_23 : decode k_Reader_learnSymbols 23 = .ok (.invokevirtual 76, 3) := by decide +kernel
theorem d_Reader_learnSymbols_26 : decode k_Reader_learnSymbols 26 = .ok (.istore_n 3, 1) := by decide +kernel
theorem d_Reader_learnSymbols_27 : decode k_Reader_learnSymbols 27 = .ok (.aload_n 0, 1) := by decide +kernel
theorem d_Reader_learnSymbols_28 : decode k_Reader_learnSymbols 28 = .ok (.iload_n 1, 1) := by decide +kernel
theorem d_Reader_learnSymbols_29 : decode k_Reader_learnSymbols 29 = .ok (.iload_n 3, 1) := by decide +kernel
theorem d_Reader_learnSymbols_30 : decode k_Reader_learnSymbols 30 = .ok (.invokevirtual 92, 3) := by decide +kernel
theorem d_Reader_learnSymbols_33 : decode k_Reader_learnSymbols 33 = .ok (.ifCond .eq (24), 3) := by decide +kernel
theorem d_Reader_learnSymbols_36 : decode k_Reader_learnSymbols 36 = .ok (.aload_n 0, 1) := by decide +kernel
theorem d_Reader_learnSymbols_37 : decode k_Reader_learnSymbols 37 = .ok (.getfield 32, 3) := by decide +kernel
theorem d_Reader_learnSymbols_40 : decode k_Reader_learnSymbols 40 = .ok (.aload_n 0, 1) := by decide +kernel
theorem d_Reader_learnSymbols_41 : decode k_Reader_learnSymbols 41 = .ok (.getfield 28, 3) := by decide +kernel
theorem d_Reader_learnSymbols_44 : decode k_Reader_learnSymbols 44 = .ok (.iload_n 1, 1) := by decide +kernel
theorem d_Reader_learnSymbols_45 : decode k_Reader_learnSymbols 45 = .ok (.iload_n 3, 1) := by decide +kernel
theorem d_Reader_learnSymbols_46 : decode k_Reader_learnSymbols 46 = .ok (.invokevirtual 96, 3) := by decide +kernel
theorem d_Reader_learnSymbols_49 : decode k_Reader_learnSymbols 49 = .ok (.invokevirtual 100, 3) := by decide +kernel
theorem d_Reader_learnSymbols_52 : decode k_Reader_learnSymbols 52 = .ok (.ifCond .ne (5), 3) := by decide +kernel
theorem d_Reader_learnSymbols_55 : decode k_Reader_learnSymbols 55 = .ok (.iconst 0, 1) := by decide +kernel
theorem d_Reader_learnSymbols_56 : decode k_Reader_learnSymbols 56 = .ok (.ireturn, 1) := by decide +kernel
theorem d_Reader_learnSymbols_57 : decode k_Reader_learnSymbols 57 = .ok (.iload_n 3, 1) := by decide +kernel
theorem d_Reader_learnSymbols_58 : decode k_Reader_learnSymbols 58 = .ok (.istore_n 1, 1) := by decide +kernel
theorem d_Reader_learnSymbols_59 : decode k_Reader_learnSymbols 59 = .ok (.iinc 2 1, 3) := by decide +kernel
theorem d_Reader_learnSymbols_62 : decode k_Reader_learnSymbols 62 = .ok (.goto (-58), 3) := by decide +kernel
theorem d_Reader_learnSymbols_65 : decode k_Reader_learnSymbols 65 = .ok (.iconst 1, 1) := by decide +kernel
theorem d_Reader_learnSymbols_66 : decode k_Reader_learnSymbols 66 = .ok (.ireturn, 1) := by decide +kernel
theorem d_Reader_isSymbol_0 : decode k_Reader_isSymbol 0 = .ok (.aload_n 0, 1) := by decide +kernel
theorem d_Reader_isSymbol_1 : decode k_Reader_isSymbol 1 = .ok (.getfield 28, 3) := by decide +kernel
theorem d_Reader_isSymbol_4 : decode k_Reader_isSymbol 4 = .ok (.iload_n 1, 1) := by decide +kernel
theorem d_Reader_isSymbol_5 : decode k_Reader_isSymbol 5 = .ok (.invokevirtual 72, 3) := by decide +kernel
