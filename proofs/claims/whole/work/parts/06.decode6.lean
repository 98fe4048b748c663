theorem d_Md_enter_15 : decode k_Md_enter 15 = .ok (.ireturn, 1) := by decide +kernel
theorem d_Md_enter_16 : decode k_Md_enter 16 = .ok (.aload_n 0, 1) := by decide +kernel
theorem d_Md_enter_17 : decode k_Md_enter 17 = .ok (.iconst 4, 1) := by decide +kernel
theorem d_Md_enter_18 : decode k_Md_enter 18 = .ok (.iload_n 2, 1) := by decide +kernel
theorem d_Md_enter_19 : decode k_Md_enter 19 = .ok (.imul, 1) := by decide +kernel
theorem d_Md_enter_20 : decode k_Md_enter 20 = .ok (.invokevirtual 171, 3) := by decide +kernel
theorem d_Md_enter_23 : decode k_Md_enter 23 = .ok (.ifCond .ne (6), 3) := by decide +kernel
theorem d_Md_enter_26 : decode k_Md_enter 26 = .ok (.bipush (-7), 2) := by decide +kernel
theorem d_Md_enter_28 : decode k_Md_enter 28 = .ok (.ireturn, 1) := by decide +kernel
theorem d_Md_enter_29 : decode k_Md_enter 29 = .ok (.aload_n 0, 1) := by decide +kernel
theorem d_Md_enter_30 : decode k_Md_enter 30 = .ok (.getfield 19, 3) := by decide +kernel
theorem d_Md_enter_33 : decode k_Md_enter 33 = .ok (.iload_n 3, 1) := by decide +kernel
theorem d_Md_enter_34 : decode k_Md_enter 34 = .ok (.ldc 91, 2) := by decide +kernel
theorem d_Md_enter_36 : decode k_Md_enter 36 = .ok (.isub, 1) := by decide +kernel
theorem d_Md_enter_37 : decode k_Md_enter 37 = .ok (.iaload, 1) := by decide +kernel
theorem d_Md_enter_38 : decode k_Md_enter 38 = .ok (.istore 4, 2) := by decide +kernel
theorem d_Md_enter_40 : decode k_Md_enter 40 = .ok (.iconst 0, 1) := by decide +kernel
theorem d_Md_enter_41 : decode k_Md_enter 41 = .ok (.istore 5, 2) := by decide +kernel
theorem d_Md_enter_43 : decode k_Md_enter 43 = .ok (.iload 5, 2) := by decide +kernel
theorem d_Md_enter_45 : decode k_Md_enter 45 = .ok (.iload_n 2, 1) := by decide +kernel
theorem d_Md_enter_46 : decode k_Md_enter 46 = .ok (.if_icmp .ge (43), 3) := by decide +kernel
theorem d_Md_enter_49 : decode k_Md_enter 49 = .ok (.aload_n 0, 1) := by decide +kernel
theorem d_Md_enter_50 : decode k_Md_enter 50 = .ok (.aload_n 0, 1) := by decide +kernel
theorem d_Md_enter_51 : decode k_Md_enter 51 = .ok (.aload_n 0, 1) := by decide +kernel
theorem d_Md_enter_52 : decode k_Md_enter 52 = .ok (.aload_n 0, 1) := by decide +kernel
theorem d_Md_enter_53 : decode k_Md_enter 53 = .ok (.iload_n 3, 1) := by decide +kernel
theorem d_Md_enter_54 : decode k_Md_enter 54 = .ok (.invokevirtual 193, 3) := by decide +kernel
theorem d_Md_enter_57 : decode k_Md_enter 57 = .ok (.iload 5, 2) := by decide +kernel
theorem d_Md_enter_59 : decode k_Md_enter 59 = .ok (.invokevirtual 211, 3) := by decide +kernel
theorem d_Md_enter_62 : decode k_Md_enter 62 = .ok (.aload_n 0, 1) := by decide +kernel
theorem d_Md_enter_63 : decode k_Md_enter 63 = .ok (.iload_n 1, 1) := by decide +kernel
theorem d_Md_enter_64 : decode k_Md_enter 64 = .ok (.iload_n 2, 1) := by decide +kernel
theorem d_Md_enter_65 : decode k_Md_enter 65 = .ok (.iconst 1, 1) := by decide +kernel
theorem d_Md_enter_66 : decode k_Md_enter 66 = .ok (.isub, 1) := by decide +kernel
theorem d_Md_enter_67 : decode k_Md_enter 67 = .ok (.iload 5, 2) := by decide +kernel
theorem d_Md_enter_69 : decode k_Md_enter 69 = .ok (.isub, 1) := by decide +kernel
theorem d_Md_enter_70 : decode k_Md_enter 70 = .ok (.invokevirtual 211, 3) := by decide +kernel
theorem d_Md_enter_73 : decode k_Md_enter 73 = .ok (.invokevirtual 152, 3) := by decide +kernel
theorem d_Md_enter_76 : decode k_Md_enter 76 = .ok (.iload 4, 2) := by decide +kernel
theorem d_Md_enter_78 : decode k_Md_enter 78 = .ok (.invokevirtual 152, 3) := by decide +kernel
theorem d_Md_enter_81 : decode k_Md_enter 81 = .ok (.istore 4, 2) := by decide +kernel
theorem d_Md_enter_83 : decode k_Md_enter 83 = .ok (.iinc 5 1, 3) := by decide +kernel
theorem d_Md_enter_86 : decode k_Md_enter 86 = .ok (.goto (-43), 3) := by decide +kernel
theorem d_Md_enter_89 : decode k_Md_enter 89 = .ok (.aload_n 0, 1) := by decide +kernel
theorem d_Md_enter_90 : decode k_Md_enter 90 = .ok (.dup, 1) := by decide +kernel
theorem d_Md_enter_91 : decode k_Md_enter 91 = .ok (.getfield 100, 3) := by decide +kernel
theorem d_Md_enter_94 : decode k_Md_enter 94 = .ok (.iconst 1, 1) := by decide +kernel
theorem d_Md_enter_95 : decode k_Md_enter 95 = .ok (.isub, 1) := by decide +kernel
theorem d_Md_enter_96 : decode k_Md_enter 96 = .ok (.putfield 100, 3) := by decide +kernel
theorem d_Md_enter_99 : decode k_Md_enter 99 = .ok (.aload_n 0, 1) := by decide +kernel
theorem d_Md_enter_100 : decode k_Md_enter 100 = .ok (.aload_n 0, 1) := by decide +kernel
theorem d_Md_enter_101 : decode k_Md_enter 101 = .ok (.iload_n 3, 1) := by decide +kernel
theorem d_Md_enter_102 : decode k_Md_enter 102 = .ok (.invokevirtual 190, 3) := by decide +kernel
theorem d_Md_enter_105 : decode k_Md_enter 105 = .ok (.iload 4, 2) := by decide +kernel
theorem d_Md_enter_107 : decode k_Md_enter 107 = .ok (.invokevirtual 218, 3) := by decide +kernel
theorem d_Md_enter_110 : decode k_Md_enter 110 = .ok (.ireturn, 1) := by decide +kernel
theorem d_Md_clearAll_0 : decode k_Md_clearAll 0 = .ok (.aload_n 0, 1) := by decide +kernel
theorem d_Md_clearAll_1 : decode k_Md_clearAll 1 = .ok (.iconst 0, 1) := by decide +kernel
theorem d_Md_clearAll_2 : decode k_Md_clearAll 2 = .ok (.putfield 100, 3) := by decide +kernel
theorem d_Md_clearAll_5 : decode k_Md_clearAll 5 = .ok (.aload_n 0, 1) := by decide +kernel
theorem d_Md_clearAll_6 : decode k_Md_clearAll 6 = .ok (.ldc 45, 2) := by decide +kernel
theorem d_Md_clearAll_8 : decode k_Md_clearAll 8 = .ok (.putfield 46, 3) := by decide +kernel
theorem d_Md_clearAll_11 : decode k_Md_clearAll 11 = .ok (.aload_n 0, 1) := by decide +kernel
theorem d_Md_clearAll_12 : decode k_Md_clearAll 12 = .ok (.ldc 45, 2) := by decide +kernel
theorem d_Md_clearAll_14 : decode k_Md_clearAll 14 = .ok (.putfield 50, 3) := by decide +kernel
theorem d_Md_clearAll_17 : decode k_Md_clearAll 17 = .ok (.return_, 1) := by decide +kernel
theorem d_Md_run_0 : decode k_Md_run 0 = .ok (.aload_n 0, 1) := by decide +kernel
theorem d_Md_run_1 : decode k_Md_run 1 = .ok (.iconst 0, 1) := by decide +kernel
theorem d_Md_run_2 : decode k_Md_run 2 = .ok (.putfield 87, 3) := by decide +kernel
theorem d_Md_run_5 : decode k_Md_run 5 = .ok (.iload_n 1, 1) := by decide +kernel
theorem d_Md_run_6 : decode k_Md_run 6 = .ok (.iconst 1, 1) := by decide +kernel
theorem d_Md_run_7 : decode k_Md_run 7 = .ok (.if_icmp .ge (7), 3) := by decide +kernel
theorem d_Md_run_10 : decode k_Md_run 10 = .ok (.iconst 1, 1) := by decide +kernel
theorem d_Md_run_11 : decode k_Md_run 11 = .ok (.goto (17), 3) := by decide +kernel
theorem d_Md_run_14 : decode k_Md_run 14 = .ok (.iload_n 1, 1) := by decide +kernel
theorem d_Md_run_15 : decode k_Md_run 15 = .ok (.sipush 1000, 3) := by decide +kernel
theorem d_Md_run_18 : decode k_Md_run 18 = .ok (.if_icmp .le (9), 3) := by decide +kernel
theorem d_Md_run_21 : decode k_Md_run 21 = .ok (.sipush 1000, 3) := by decide +kernel
theorem d_Md_run_24 : decode k_Md_run 24 = .ok (.goto (4), 3) := by decide +kernel
theorem d_Md_run_27 : decode k_Md_run 27 = .ok (.iload_n 1, 1) := by decide +kernel
theorem d_Md_run_28 : decode k_Md_run 28 = .ok (.istore_n 2, 1) := by decide +kernel
theorem d_Md_run_29 : decode k_Md_run 29 = .ok (.iconst 1, 1) := by decide +kernel
theorem d_Md_run_30 : decode k_Md_run 30 = .ok (.istore_n 3, 1) := by decide +kernel
theorem d_Md_run_31 : decode k_Md_run 31 = .ok (.aload_n 0, 1) := by decide +kernel
theorem d_Md_run_32 : decode k_Md_run 32 = .ok (.getfield 180, 3) := by decide +kernel
theorem d_Md_run_35 : decode k_Md_run 35 = .ok (.ifCond .ne (11), 3) := by decide +kernel
theorem d_Md_run_38 : decode k_Md_run 38 = .ok (.aload_n 0, 1) := by decide +kernel
theorem d_Md_run_39 : decode k_Md_run 39 = .ok (.invokevirtual 254, 3) := by decide +kernel
theorem d_Md_run_42 : decode k_Md_run 42 = .ok (.istore_n 3, 1) := by decide +kernel
theorem d_Md_run_43 : decode k_Md_run 43 = .ok (.iinc 2 (-1), 3) := by decide +kernel
theorem d_Md_run_46 : decode k_Md_run 46 = .ok (.iload_n 3, 1) := by decide +kernel
theorem d_Md_run_47 : decode k_Md_run 47 = .ok (.iconst 1, 1) := by decide +kernel
theorem d_Md_run_48 : decode k_Md_run 48 = .ok (.if_icmp .ne (42), 3) := by decide +kernel
theorem d_Md_run_51 : decode k_Md_run 51 = .ok (.iload_n 2, 1) := by decide +kernel
theorem d_Md_run_52 : decode k_Md_run 52 = .ok (.ifCond .le (38), 3) := by decide +kernel
theorem d_Md_run_55 : decode k_Md_run 55 = .ok (.aload_n 0, 1) := by decide +kernel
theorem d_Md_run_56 : decode k_Md_run 56 = .ok (.dup, 1) := by decide +kernel
theorem d_Md_run_57 : decode k_Md_run 57 = .ok (.getfield 165, 3) := by decide +kernel
theorem d_Md_run_60 : decode k_Md_run 60 = .ok (.iconst 1, 1) := by decide +kernel
theorem d_Md_run_61 : decode k_Md_run 61 = .ok (.iadd, 1) := by decide +kernel
theorem d_Md_run_62 : decode k_Md_run 62 = .ok (.putfield 165, 3) := by decide +kernel
theorem d_Md_run_65 : decode k_Md_run 65 = .ok (.aload_n 0, 1) := by decide +kernel
theorem d_Md_run_66 : decode k_Md_run 66 = .ok (.getfield 184, 3) := by decide +kernel
theorem d_Md_run_69 : decode k_Md_run 69 = .ok (.ifCond .eq (10), 3) := by decide +kernel
theorem d_Md_run_72 : decode k_Md_run 72 = .ok (.aload_n 0, 1) := by decide +kernel
theorem d_Md_run_73 : decode k_Md_run 73 = .ok (.invokevirtual 257, 3) := by decide +kernel
theorem d_Md_run_76 : decode k_Md_run 76 = .ok (.goto (7), 3) := by decide +kernel
theorem d_Md_run_79 : decode k_Md_run 79 = .ok (.aload_n 0, 1) := by decide +kernel
theorem d_Md_run_80 : decode k_Md_run 80 = .ok (.invokevirtual 260, 3) := by decide +kernel
theorem d_Md_run_83 : decode k_Md_run 83 = .ok (.istore_n 3, 1) := by decide +kernel
theorem d_Md_run_84 : decode k_Md_run 84 = .ok (.iinc 2 (-1), 3) := by decide +kernel
theorem d_Md_run_87 : decode k_Md_run 87 = .ok (.goto (-41), 3) := by decide +kernel
theorem d_Md_run_90 : decode k_Md_run 90 = .ok (.iload_n 3, 1) := by decide +kernel
theorem d_Md_run_91 : decode k_Md_run 91 = .ok (.ifCond .ge (12), 3) := by decide +kernel
theorem d_Md_run_94 : decode k_Md_run 94 = .ok (.aload_n 0, 1) := by decide +kernel
theorem d_Md_run_95 : decode k_Md_run 95 = .ok (.iconst 0, 1) := by decide +kernel
theorem d_Md_run_96 : decode k_Md_run 96 = .ok (.putfield 180, 3) := by decide +kernel
theorem d_Md_run_99 : decode k_Md_run 99 = .ok (.aload_n 0, 1) := by decide +kernel
theorem d_Md_run_100 : decode k_Md_run 100 = .ok (.invokevirtual 230, 3) := by decide +kernel
theorem d_Md_run_103 : decode k_Md_run 103 = .ok (.iload_n 3, 1) := by decide +kernel
theorem d_Md_run_104 : decode k_Md_run 104 = .ok (.ireturn, 1) := by decide +kernel
theorem d_Md_put_0 : decode k_Md_put 0 = .ok (.aload_n 0, 1) := by decide +kernel
theorem d_Md_put_1 : decode k_Md_put 1 = .ok (.getfield 263, 3) := by decide +kernel
theorem d_Md_put_4 : decode k_Md_put 4 = .ok (.sipush 200, 3) := by decide +kernel
theorem d_Md_put_7 : decode k_Md_put 7 = .ok (.if_icmp .ge (24), 3) := by decide +kernel
theorem d_Md_put_10 : decode k_Md_put 10 = .ok (.aload_n 0, 1) := by decide +kernel
theorem d_Md_put_11 : decode k_Md_put 11 = .ok (.getfield 56, 3) := by decide +kernel
theorem d_Md_put_14 : decode k_Md_put 14 = .ok (.aload_n 0, 1) := by decide +kernel
theorem d_Md_put_15 : decode k_Md_put 15 = .ok (.getfield 263, 3) := by decide +kernel
theorem d_Md_put_18 : decode k_Md_put 18 = .ok (.iload_n 1, 1) := by decide +kernel
theorem d_Md_put_19 : decode k_Md_put 19 = .ok (.i2c, 1) := by decide +kernel
theorem d_Md_put_20 : decode k_Md_put 20 = .ok (.castore, 1) := by decide +kernel
theorem d_Md_put_21 : decode k_Md_put 21 = .ok (.aload_n 0, 1) := by decide +kernel
theorem d_Md_put_22 : decode k_Md_put 22 = .ok (.dup, 1) := by decide +kernel
theorem d_Md_put_23 : decode k_Md_put 23 = .ok (.getfield 263, 3) := by decide +kernel
theorem d_Md_put_26 : decode k_Md_put 26 = .ok (.iconst 1, 1) := by decide +kernel
theorem d_Md_put_27 : decode k_Md_put 27 = .ok (.iadd, 1) := by decide +kernel
theorem d_Md_put_28 : decode k_Md_put 28 = .ok (.putfield 263, 3) := by decide +kernel
theorem d_Md_put_31 : decode k_Md_put 31 = .ok (.return_, 1) := by decide +kernel
theorem d_Md_putName_0 : decode k_Md_putName 0 = .ok (.iconst 0, 1) := by decide +kernel
theorem d_Md_putName_1 : decode k_Md_putName 1 = .ok (.istore_n 2, 1) := by decide +kernel
theorem d_Md_putName_2 : decode k_Md_putName 2 = .ok (.iload_n 2, 1) := by decide +kernel
theorem d_Md_putName_3 : decode k_Md_putName 3 = .ok (.bipush 8, 2) := by decide +kernel
theorem d_Md_putName_5 : decode k_Md_putName 5 = .ok (.if_icmp .ge (38), 3) := by decide +kernel
theorem d_Md_putName_8 : decode k_Md_putName 8 = .ok (.aload_n 0, 1) := by decide +kernel
theorem d_Md_putName_9 : decode k_Md_putName 9 = .ok (.getfield 38, 3) := by decide +kernel
theorem d_Md_putName_12 : decode k_Md_putName 12 = .ok (.bipush 8, 2) := by decide +kernel
theorem d_Md_putName_14 : decode k_Md_putName 14 = .ok (.iload_n 1, 1) := by decide +kernel
theorem d_Md_putName_15 : decode k_Md_putName 15 = .ok (.imul, 1) := by decide +kernel
theorem d_Md_putName_16 : decode k_Md_putName 16 = .ok (.iload_n 2, 1) := by decide +kernel
theorem d_Md_putName_17 : decode k_Md_putName 17 = .ok (.iadd, 1) := by decide +kernel
theorem d_Md_putName_18 : decode k_Md_putName 18 = .ok (.caload, 1) := by decide +kernel
theorem d_Md_putName_19 : decode k_Md_putName 19 = .ok (.ifCond .le (18), 3) := by decide +kernel
theorem d_Md_putName_22 : decode k_Md_putName 22 = .ok (.aload_n 0, 1) := by decide +kernel
theorem d_Md_putName_23 : decode k_Md_putName 23 = .ok (.aload_n 0, 1) := by decide +kernel
theorem d_Md_putName_24 : decode k_Md_putName 24 = .ok (.getfield 38, 3) := by decide +kernel
theorem d_Md_putName_27 : decode k_Md_putName 27 = .ok (.bipush 8, 2) := by decide +kernel
theorem d_Md_putName_29 : decode k_Md_putName 29 = .ok (.iload_n 1, 1) := by decide +kernel
theorem d_Md_putName_30 : decode k_Md_putName 30 = .ok (.imul, 1) := by decide +kernel
theorem d_Md_putName_31 : decode k_Md_putName 31 = .ok (.iload_n 2, 1) := by decide +kernel
theorem d_Md_putName_32 : decode k_Md_putName 32 = .ok (.iadd, 1) := by decide +kernel
theorem d_Md_putName_33 : decode k_Md_putName 33 = .ok (.caload, 1) := by decide +kernel
theorem d_Md_putName_34 : decode k_Md_putName 34 = .ok (.invokevirtual 266, 3) := by decide +kernel
theorem d_Md_putName_37 : decode k_Md_putName 37 = .ok (.iinc 2 1, 3) := by decide +kernel
theorem d_Md_putName_40 : decode k_Md_putName 40 = .ok (.goto (-38), 3) := by decide +kernel
theorem d_Md_putName_43 : decode k_Md_putName 43 = .ok (.return_, 1) := by decide +kernel
theorem d_Md_putNumber_0 : decode k_Md_putNumber 0 = .ok (.iload_n 1, 1) := by decide +kernel
theorem d_Md_putNumber_1 : decode k_Md_putNumber 1 = .ok (.ifCond .ge (9), 3) := by decide +kernel
theorem d_Md_putNumber_4 : decode k_Md_putNumber 4 = .ok (.aload_n 0, 1) := by decide +kernel
theorem d_Md_putNumber_5 : decode k_Md_putNumber 5 = .ok (.bipush 45, 2) := by decide +kernel
theorem d_Md_putNumber_7 : decode k_Md_putNumber 7 = .ok (.invokevirtual 266, 3) := by decide +kernel
theorem d_Md_putNumber_10 : decode k_Md_putNumber 10 = .ok (.iload_n 1, 1) := by decide +kernel
theorem d_Md_putNumber_11 : decode k_Md_putNumber 11 = .ok (.ifCond .ge (8), 3) := by decide +kernel
theorem d_Md_putNumber_14 : decode k_Md_putNumber 14 = .ok (.iload_n 1, 1) := by decide +kernel
theorem d_Md_putNumber_15 : decode k_Md_putNumber 15 = .ok (.ineg, 1) := by decide +kernel
theorem d_Md_putNumber_16 : decode k_Md_putNumber 16 = .ok (.goto (4), 3) := by decide +kernel
theorem d_Md_putNumber_19 : decode k_Md_putNumber 19 = .ok (.iload_n 1, 1) := by decide +kernel
theorem d_Md_putNumber_20 : decode k_Md_putNumber 20 = .ok (.istore_n 2, 1) := by decide +kernel
theorem d_Md_putNumber_21 : decode k_Md_putNumber 21 = .ok (.iconst 1, 1) := by decide +kernel
theorem d_Md_putNumber_22 : decode k_Md_putNumber 22 = .ok (.istore_n 3, 1) := by decide +kernel
theorem d_Md_putNumber_23 : decode k_Md_putNumber 23 = .ok (.iload_n 2, 1) := by decide +kernel
theorem d_Md_putNumber_24 : decode k_Md_putNumber 24 = .ok (.iload_n 3, 1) := by decide +kernel
theorem d_Md_putNumber_25 : decode k_Md_putNumber 25 = .ok (.idiv, 1) := by decide +kernel
theorem d_Md_putNumber_26 : decode k_Md_putNumber 26 = .ok (.bipush 9, 2) := by decide +kernel
theorem d_Md_putNumber_28 : decode k_Md_putNumber 28 = .ok (.if_icmp .le (11), 3) := by decide +kernel
theorem d_Md_putNumber_31 : decode k_Md_putNumber 31 = .ok (.iload_n 3, 1) := by decide +kernel
theorem d_Md_putNumber_32 : decode k_Md_putNumber 32 = .ok (.bipush 10, 2) := by decide +kernel
theorem d_Md_putNumber_34 : decode k_Md_putNumber 34 = .ok (.imul, 1) := by decide +kernel
theorem d_Md_putNumber_35 : decode k_Md_putNumber 35 = .ok (.istore_n 3, 1) := by decide +kernel
theorem d_Md_putNumber_36 : decode k_Md_putNumber 36 = .ok (.goto (-13), 3) := by decide +kernel
theorem d_Md_putNumber_39 : decode k_Md_putNumber 39 = .ok (.iload_n 3, 1) := by decide +kernel
theorem d_Md_putNumber_40 : decode k_Md_putNumber 40 = .ok (.ifCond .le (24), 3) := by decide +kernel
theorem d_Md_putNumber_43 : decode k_Md_putNumber 43 = .ok (.aload_n 0, 1) := by decide +kernel
theorem d_Md_putNumber_44 : decode k_Md_putNumber 44 = .ok (.bipush 48, 2) := by decide +kernel
theorem d_Md_putNumber_46 : decode k_Md_putNumber 46 = .ok (.iload_n 2, 1) := by decide +kernel
theorem d_Md_putNumber_47 : decode k_Md_putNumber 47 = .ok (.iload_n 3, 1) := by decide +kernel
theorem d_Md_putNumber_48 : decode k_Md_putNumber 48 = .ok (.idiv, 1) := by decide +kernel
theorem d_Md_putNumber_49 : decode k_Md_putNumber 49 = .ok (.bipush 10, 2) := by decide +kernel
theorem d_Md_putNumber_51 : decode k_Md_putNumber 51 = .ok (.irem, 1) := by decide +kernel
theorem d_Md_putNumber_52 : decode k_Md_putNumber 52 = .ok (.iadd, 1) := by decide +kernel
theorem d_Md_putNumber_53 : decode k_Md_putNumber 53 = .ok (.invokevirtual 266, 3) := by decide +kernel
theorem d_Md_putNumber_56 : decode k_Md_putNumber 56 = .ok (.iload_n 3, 1) := by decide +kernel
theorem d_Md_putNumber_57 : decode k_Md_putNumber 57 = .ok (.bipush 10, 2) := by decide +kernel
theorem d_Md_putNumber_59 : decode k_Md_putNumber 59 = .ok (.idiv, 1) := by decide +kernel
theorem d_Md_putNumber_60 : decode k_Md_putNumber 60 = .ok (.istore_n 3, 1) := by decide +kernel
theorem d_Md_putNumber_61 : decode k_Md_putNumber 61 = .ok (.goto (-22), 3) := by decide +kernel
theorem d_Md_putNumber_64 : decode k_Md_putNumber 64 = .ok (.return_, 1) := by decide +kernel
theorem d_Md_putDots_0 : decode k_Md_putDots 0 = .ok (.aload_n 0, 1) := by decide +kernel
theorem d_Md_putDots_1 : decode k_Md_putDots 1 = .ok (.bipush 46, 2) := by decide +kernel
theorem d_Md_putDots_3 : decode k_Md_putDots 3 = .ok (.invokevirtual 266, 3) := by decide +kernel
theorem d_Md_putDots_6 : decode k_Md_putDots 6 = .ok (.aload_n 0, 1) := by decide +kernel
theorem d_Md_putDots_7 : decode k_Md_putDots 7 = .ok (.bipush 46, 2) := by decide +kernel
theorem d_Md_putDots_9 : decode k_Md_putDots 9 = .ok (.invokevirtual 266, 3) := by decide +kernel
theorem d_Md_putDots_12 : decode k_Md_putDots 12 = .ok (.aload_n 0, 1) := by decide +kernel
theorem d_Md_putDots_13 : decode k_Md_putDots 13 = .ok (.bipush 46, 2) := by decide +kernel
theorem d_Md_putDots_15 : decode k_Md_putDots 15 = .ok (.invokevirtual 266, 3) := by decide +kernel
theorem d_Md_putDots_18 : decode k_Md_putDots 18 = .ok (.return_, 1) := by decide +kernel
theorem d_Md_putPlain_0 : decode k_Md_putPlain 0 = .ok (.iload_n 1, 1) := by decide +kernel
theorem d_Md_putPlain_1 : decode k_Md_putPlain 1 = .ok (.invokestatic 251, 3) := by decide +kernel
theorem d_Md_putPlain_4 : decode k_Md_putPlain 4 = .ok (.ifCond .eq (11), 3) := by decide +kernel
theorem d_Md_putPlain_7 : decode k_Md_putPlain 7 = .ok (.aload_n 0, 1) := by decide +kernel
theorem d_Md_putPlain_8 : decode k_Md_putPlain 8 = .ok (.iload_n 1, 1) := by decide +kernel
theorem d_Md_putPlain_9 : decode k_Md_putPlain 9 = .ok (.invokevirtual 269, 3) := by decide +kernel
theorem d_Md_putPlain_12 : decode k_Md_putPlain 12 = .ok (.goto (80), 3) := by decide +kernel
theorem d_Md_putPlain_15 : decode k_Md_putPlain 15 = .ok (.iload_n 1, 1) := by decide +kernel
theorem d_Md_putPlain_16 : decode k_Md_putPlain 16 = .ok (.ldc 45, 2) := by decide +kernel
theorem d_Md_putPlain_18 : decode k_Md_putPlain 18 = .ok (.if_icmp .ne (18), 3) := by decide +kernel
theorem d_Md_putPlain_21 : decode k_Md_putPlain 21 = .ok (.aload_n 0, 1) := by decide +kernel
theorem d_Md_putPlain_22 : decode k_Md_putPlain 22 = .ok (.bipush 40, 2) := by decide +kernel
theorem d_Md_putPlain_24 : decode k_Md_putPlain 24 = .ok (.invokevirtual 266, 3) := by decide +kernel
theorem d_Md_putPlain_27 : decode k_Md_putPlain 27 = .ok (.aload_n 0, 1) := by decide +kernel
theorem d_Md_putPlain_28 : decode k_Md_putPlain 28 = .ok (.bipush 41, 2) := by decide +kernel
theorem d_Md_putPlain_30 : decode k_Md_putPlain 30 = .ok (.invokevirtual 266, 3) := by decide +kernel
theorem d_Md_putPlain_33 : decode k_Md_putPlain 33 = .ok (.goto (59), 3) := by decide +kernel
theorem d_Md_putPlain_36 : decode k_Md_putPlain 36 = .ok (.iload_n 1, 1) := by decide +kernel
theorem d_Md_putPlain_37 : decode k_Md_putPlain 37 = .ok (.invokestatic 92, 3) := by decide +kernel
theorem d_Md_putPlain_40 : decode k_Md_putPlain 40 = .ok (.ifCond .eq (30), 3) := by decide +kernel
theorem d_Md_putPlain_43 : decode k_Md_putPlain 43 = .ok (.aload_n 0, 1) := by decide +kernel
theorem d_Md_putPlain_44 : decode k_Md_putPlain 44 = .ok (.bipush 60, 2) := by decide +kernel
theorem d_Md_putPlain_46 : decode k_Md_putPlain 46 = .ok (.invokevirtual 266, 3) := by decide +kernel
theorem d_Md_putPlain_49 : decode k_Md_putPlain 49 = .ok (.aload_n 0, 1) := by decide +kernel
theorem d_Md_putPlain_50 : decode k_Md_putPlain 50 = .ok (.bipush 102, 2) := by decide +kernel
theorem d_Md_putPlain_52 : decode k_Md_putPlain 52 = .ok (.invokevirtual 266, 3) := by decide +kernel
theorem d_Md_putPlain_55 : decode k_Md_putPlain 55 = .ok (.aload_n 0, 1) := by decide +kernel
theorem d_Md_putPlain_56 : decode k_Md_putPlain 56 = .ok (.bipush 110, 2) := by decide +kernel
theorem d_Md_putPlain_58 : decode k_Md_putPlain 58 = .ok (.invokevirtual 266, 3) := by decide +kernel
theorem d_Md_putPlain_61 : decode k_Md_putPlain 61 = .ok (.aload_n 0, 1) := by decide +kernel
theorem d_Md_putPlain_62 : decode k_Md_putPlain 62 = .ok (.bipush 62, 2) := by decide +kernel
theorem d_Md_putPlain_64 : decode k_Md_putPlain 64 = .ok (.invokevirtual 266, 3) := by decide +kernel
theorem d_Md_putPlain_67 : decode k_Md_putPlain 67 = .ok (.goto (25), 3) := by decide +kernel
theorem d_Md_putPlain_70 : decode k_Md_putPlain 70 = .ok (.aload_n 0, 1) := by decide +kernel
theorem d_Md_putPlain_71 : decode k_Md_putPlain 71 = .ok (.iload_n 1, 1) := by decide +kernel
theorem d_Md_putPlain_72 : decode k_Md_putPlain 72 = .ok (.invokestatic 205, 3) := by decide +kernel
theorem d_Md_putPlain_75 : decode k_Md_putPlain 75 = .ok (.ifCond .eq (10), 3) := by decide +kernel
theorem d_Md_putPlain_78 : decode k_Md_putPlain 78 = .ok (.iload_n 1, 1) := by decide +kernel
theorem d_Md_putPlain_79 : decode k_Md_putPlain 79 = .ok (.ldc 90, 2) := by decide +kernel
theorem d_Md_putPlain_81 : decode k_Md_putPlain 81 = .ok (.isub, 1) := by decide +kernel
theorem d_Md_putPlain_82 : decode k_Md_putPlain 82 = .ok (.goto (7), 3) := by decide +kernel
theorem d_Md_putPlain_85 : decode k_Md_putPlain 85 = .ok (.iload_n 1, 1) := by decide +kernel
theorem d_Md_putPlain_86 : decode k_Md_putPlain 86 = .ok (.ldc 77, 2) := by decide +kernel
theorem d_Md_putPlain_88 : decode k_Md_putPlain 88 = .ok (.isub, 1) := by decide +kernel
theorem d_Md_putPlain_89 : decode k_Md_putPlain 89 = .ok (.invokevirtual 272, 3) := by decide +kernel
theorem d_Md_putPlain_92 : decode k_Md_putPlain 92 = .ok (.return_, 1) := by decide +kernel
theorem d_Md_begin_0 : decode k_Md_begin 0 = .ok (.aload_n 0, 1) := by decide +kernel
theorem d_Md_begin_1 : decode k_Md_begin 1 = .ok (.iload_n 1, 1) := by decide +kernel
theorem d_Md_begin_2 : decode k_Md_begin 2 = .ok (.invokevirtual 187, 3) := by decide +kernel
theorem d_Md_begin_5 : decode k_Md_begin 5 = .ok (.ifCond .ne (11), 3) := by decide +kernel
theorem d_Md_begin_8 : decode k_Md_begin 8 = .ok (.aload_n 0, 1) := by decide +kernel
theorem d_Md_begin_9 : decode k_Md_begin 9 = .ok (.iload_n 1, 1) := by decide +kernel
theorem d_Md_begin_10 : decode k_Md_begin 10 = .ok (.invokevirtual 275, 3) := by decide +kernel
theorem d_Md_begin_13 : decode k_Md_begin 13 = .ok (.goto (22), 3) := by decide +kernel
theorem d_Md_begin_16 : decode k_Md_begin 16 = .ok (.iload_n 2, 1) := by decide +kernel
theorem d_Md_begin_17 : decode k_Md_begin 17 = .ok (.bipush 16, 2) := by decide +kernel
theorem d_Md_begin_19 : decode k_Md_begin 19 = .ok (.if_icmp .ne (10), 3) := by decide +kernel
theorem d_Md_begin_22 : decode k_Md_begin 22 = .ok (.aload_n 0, 1) := by decide +kernel
theorem d_Md_begin_23 : decode k_Md_begin 23 = .ok (.invokevirtual 278, 3) := by decide +kernel
theorem d_Md_begin_26 : decode k_Md_begin 26 = .ok (.goto (9), 3) := by decide +kernel
theorem d_Md_begin_29 : decode k_Md_begin 29 = .ok (.aload_n 0, 1) := by decide +kernel
theorem d_Md_begin_30 : decode k_Md_begin 30 = .ok (.bipush 40, 2) := by decide +kernel
theorem d_Md_begin_32 : decode k_Md_begin 32 = .ok (.invokevirtual 266, 3) := by decide +kernel
theorem d_Md_begin_35 : decode k_Md_begin 35 = .ok (.aload_n 0, 1) := by decide +kernel
theorem d_Md_begin_36 : decode k_Md_begin 36 = .ok (.iload_n 1, 1) := by decide +kernel
theorem d_Md_begin_37 : decode k_Md_begin 37 = .ok (.invokevirtual 187, 3) := by decide +kernel
theorem d_Md_begin_40 : decode k_Md_begin 40 = .ok (.ifCond .eq (9), 3) := by decide +kernel
theorem d_Md_begin_43 : decode k_Md_begin 43 = .ok (.iload_n 2, 1) := by decide +kernel
theorem d_Md_begin_44 : decode k_Md_begin 44 = .ok (.bipush 16, 2) := by decide +kernel
theorem d_Md_begin_46 : decode k_Md_begin 46 = .ok (.if_icmp .ne (5), 3) := by decide +kernel
theorem d_Md_begin_49 : decode k_Md_begin 49 = .ok (.iload_n 2, 1) := by decide +kernel
theorem d_Md_begin_50 : decode k_Md_begin 50 = .ok (.ireturn, 1) := by decide +kernel
theorem d_Md_begin_51 : decode k_Md_begin 51 = .ok (.aload_n 0, 1) := by decide +kernel
theorem d_Md_begin_52 : decode k_Md_begin 52 = .ok (.getfield 68, 3) := by decide +kernel
theorem d_Md_begin_55 : decode k_Md_begin 55 = .ok (.iload_n 2, 1) := by decide +kernel
theorem d_Md_begin_56 : decode k_Md_begin 56 = .ok (.iconst 1, 1) := by decide +kernel
theorem d_Md_begin_57 : decode k_Md_begin 57 = .ok (.iadd, 1) := by decide +kernel
theorem d_Md_begin_58 : decode k_Md_begin 58 = .ok (.iload_n 1, 1) := by decide +kernel
theorem d_Md_begin_59 : decode k_Md_begin 59 = .ok (.iastore, 1) := by decide +kernel
theorem d_Md_begin_60 : decode k_Md_begin 60 = .ok (.aload_n 0, 1) := by decide +kernel
theorem d_Md_begin_61 : decode k_Md_begin 61 = .ok (.getfield 71, 3) := by decide +kernel
theorem d_Md_begin_64 : decode k_Md_begin 64 = .ok (.iload_n 2, 1) := by decide +kernel
theorem d_Md_begin_65 : decode k_Md_begin 65 = .ok (.iconst 1, 1) := by decide +kernel
theorem d_Md_begin_66 : decode k_Md_begin 66 = .ok (.iadd, 1) := by decide +kernel
theorem d_Md_begin_67 : decode k_Md_begin 67 = .ok (.iconst 0, 1) := by decide +kernel
theorem d_Md_begin_68 : decode k_Md_begin 68 = .ok (.iastore, 1) := by decide +kernel
theorem d_Md_begin_69 : decode k_Md_begin 69 = .ok (.iload_n 2, 1) := by decide +kernel
theorem d_Md_begin_70 : decode k_Md_begin 70 = .ok (.iconst 1, 1) := by decide +kernel
theorem d_Md_begin_71 : decode k_Md_begin 71 = .ok (.iadd, 1) := by decide +kernel
theorem d_Md_begin_72 : decode k_Md_begin 72 = .ok (.ireturn, 1) := by decide +kernel
theorem d_Md_further_0 : decode k_Md_further 0 = .ok (.aload_n 0, 1) := by decide +kernel
theorem d_Md_further_1 : decode k_Md_further 1 = .ok (.getfield 68, 3) := by decide +kernel
theorem d_Md_further_4 : decode k_Md_further 4 = .ok (.iload_n 1, 1) := by decide +kernel
theorem d_Md_further_5 : decode k_Md_further 5 = .ok (.iaload, 1) := by decide +kernel
theorem d_Md_further_6 : decode k_Md_further 6 = .ok (.istore_n 2, 1) := by decide +kernel
theorem d_Md_further_7 : decode k_Md_further 7 = .ok (.aload_n 0, 1) := by decide +kernel
theorem d_Md_further_8 : decode k_Md_further 8 = .ok (.iload_n 2, 1) := by decide +kernel
theorem d_Md_further_9 : decode k_Md_further 9 = .ok (.invokevirtual 187, 3) := by decide +kernel
theorem d_Md_further_12 : decode k_Md_further 12 = .ok (.ifCond .eq (61), 3) := by decide +kernel
theorem d_Md_further_15 : decode k_Md_further 15 = .ok (.aload_n 0, 1) := by decide +kernel
theorem d_Md_further_16 : decode k_Md_further 16 = .ok (.getfield 71, 3) := by decide +kernel
theorem d_Md_further_19 : decode k_Md_further 19 = .ok (.iload_n 1, 1) := by decide +kernel
theorem d_Md_further_20 : decode k_Md_further 20 = .ok (.iaload, 1) := by decide +kernel
theorem d_Md_further_21 : decode k_Md_further 21 = .ok (.bipush 40, 2) := by decide +kernel
theorem d_Md_further_23 : decode k_Md_further 23 = .ok (.if_icmp .ge (50), 3) := by decide +kernel
theorem d_Md_further_26 : decode k_Md_further 26 = .ok (.aload_n 0, 1) := by decide +kernel
theorem d_Md_further_27 : decode k_Md_further 27 = .ok (.getfield 71, 3) := by decide +kernel
theorem d_Md_further_30 : decode k_Md_further 30 = .ok (.iload_n 1, 1) := by decide +kernel
theorem d_Md_further_31 : decode k_Md_further 31 = .ok (.iaload, 1) := by decide +kernel
theorem d_Md_further_32 : decode k_Md_further 32 = .ok (.ifCond .le (9), 3) := by decide +kernel
theorem d_Md_further_35 : decode k_Md_further 35 = .ok (.aload_n 0, 1) := by decide +kernel
theorem d_Md_further_36 : decode k_Md_further 36 = .ok (.bipush 32, 2) := by decide +kernel
theorem d_Md_further_38 : decode k_Md_further 38 = .ok (.invokevirtual 266, 3) := by decide +kernel
theorem d_Md_further_41 : decode k_Md_further 41 = .ok (.aload_n 0, 1) := by decide +kernel
theorem d_Md_further_42 : decode k_Md_further 42 = .ok (.getfield 71, 3) := by decide +kernel
theorem d_Md_further_45 : decode k_Md_further 45 = .ok (.iload_n 1, 1) := by decide +kernel
theorem d_Md_further_46 : decode k_Md_further 46 = .ok (.dup2, 1) := by decide +kernel
theorem d_Md_further_47 : decode k_Md_further 47 = .ok (.iaload, 1) := by decide +kernel
theorem d_Md_further_48 : decode k_Md_further 48 = .ok (.iconst 1, 1) := by decide +kernel
theorem d_Md_further_49 : decode k_Md_further 49 = .ok (.iadd, 1) := by decide +kernel
theorem d_Md_further_50 : decode k_Md_further 50 = .ok (.iastore, 1) := by decide +kernel
theorem d_Md_further_51 : decode k_Md_further 51 = .ok (.aload_n 0, 1) := by decide +kernel
theorem d_Md_further_52 : decode k_Md_further 52 = .ok (.getfield 68, 3) := by decide +kernel
theorem d_Md_further_55 : decode k_Md_further 55 = .ok (.iload_n 1, 1) := by decide +kernel
theorem d_Md_further_56 : decode k_Md_further 56 = .ok (.aload_n 0, 1) := by decide +kernel
theorem d_Md_further_57 : decode k_Md_further 57 = .ok (.iload_n 2, 1) := by decide +kernel
theorem d_Md_further_58 : decode k_Md_further 58 = .ok (.invokevirtual 190, 3) := by decide +kernel
theorem d_Md_further_61 : decode k_Md_further 61 = .ok (.iastore, 1) := by decide +kernel
theorem d_Md_further_62 : decode k_Md_further 62 = .ok (.aload_n 0, 1) := by decide +kernel
theorem d_Md_further_63 : decode k_Md_further 63 = .ok (.aload_n 0, 1) := by decide +kernel
theorem d_Md_further_64 : decode k_Md_further 64 = .ok (.iload_n 2, 1) := by decide +kernel
theorem d_Md_further_65 : decode k_Md_further 65 = .ok (.invokevirtual 193, 3) := by decide +kernel
theorem d_Md_further_68 : decode k_Md_further 68 = .ok (.iload_n 1, 1) := by decide +kernel
theorem d_Md_further_69 : decode k_Md_further 69 = .ok (.invokevirtual 281, 3) := by decide +kernel
theorem d_Md_further_72 : decode k_Md_further 72 = .ok (.ireturn, 1) := by decide +kernel
theorem d_Md_further_73 : decode k_Md_further 73 = .ok (.iload_n 2, 1) := by decide +kernel
theorem d_Md_further_74 : decode k_Md_further 74 = .ok (.ldc 45, 2) := by decide +kernel
theorem d_Md_further_76 : decode k_Md_further 76 = .ok (.if_icmp .eq (9), 3) := by decide +kernel
theorem d_Md_further_79 : decode k_Md_further 79 = .ok (.aload_n 0, 1) := by decide +kernel
theorem d_Md_further_80 : decode k_Md_further 80 = .ok (.bipush 32, 2) := by decide +kernel
theorem d_Md_further_82 : decode k_Md_further 82 = .ok (.invokevirtual 266, 3) := by decide +kernel
theorem d_Md_further_85 : decode k_Md_further 85 = .ok (.aload_n 0, 1) := by decide +kernel
theorem d_Md_further_86 : decode k_Md_further 86 = .ok (.iload_n 2, 1) := by decide +kernel
theorem d_Md_further_87 : decode k_Md_further 87 = .ok (.invokevirtual 187, 3) := by decide +kernel
theorem d_Md_further_90 : decode k_Md_further 90 = .ok (.ifCond .eq (10), 3) := by decide +kernel
theorem d_Md_further_93 : decode k_Md_further 93 = .ok (.aload_n 0, 1) := by decide +kernel
theorem d_Md_further_94 : decode k_Md_further 94 = .ok (.invokevirtual 278, 3) := by decide +kernel
theorem d_Md_further_97 : decode k_Md_further 97 = .ok (.goto (26), 3) := by decide +kernel
theorem d_Md_further_100 : decode k_Md_further 100 = .ok (.iload_n 2, 1) := by decide +kernel
theorem d_Md_further_101 : decode k_Md_further 101 = .ok (.ldc 45, 2) := by decide +kernel
theorem d_Md_further_103 : decode k_Md_further 103 = .ok (.if_icmp .eq (20), 3) := by decide +kernel
theorem d_Md_further_106 : decode k_Md_further 106 = .ok (.aload_n 0, 1) := by decide +kernel
theorem d_Md_further_107 : decode k_Md_further 107 = .ok (.bipush 46, 2) := by decide +kernel
theorem d_Md_further_109 : decode k_Md_further 109 = .ok (.invokevirtual 266, 3) := by decide +kernel
theorem d_Md_further_112 : decode k_Md_further 112 = .ok (.aload_n 0, 1) := by decide +kernel
theorem d_Md_further_113 : decode k_Md_further 113 = .ok (.bipush 32, 2) := by decide +kernel
theorem d_Md_further_115 : decode k_Md_further 115 = .ok (.invokevirtual 266, 3) := by decide +kernel
theorem d_Md_further_118 : decode k_Md_further 118 = .ok (.aload_n 0, 1) := by decide +kernel
theorem d_Md_further_119 : decode k_Md_further 119 = .ok (.iload_n 2, 1) := by decide +kernel
theorem d_Md_further_120 : decode k_Md_further 120 = .ok (.invokevirtual 275, 3) := by decide +kernel
theorem d_Md_further_123 : decode k_Md_further 123 = .ok (.aload_n 0, 1) := by decide +kernel
theorem d_Md_further_124 : decode k_Md_further 124 = .ok (.bipush 41, 2) := by decide +kernel
theorem d_Md_further_126 : decode k_Md_further 126 = .ok (.invokevirtual 266, 3) := by decide +kernel
theorem d_Md_further_129 : decode k_Md_further 129 = .ok (.iload_n 1, 1) := by decide +kernel
theorem d_Md_further_130 : decode k_Md_further 130 = .ok (.iconst 1, 1) := by decide +kernel
theorem d_Md_further_131 : decode k_Md_further 131 = .ok (.isub, 1) := by decide +kernel
theorem d_Md_further_132 : decode k_Md_further 132 = .ok (.ireturn, 1) := by decide +kernel
theorem d_Md_print_0 : decode k_Md_print 0 = .ok (.aload_n 0, 1) := by decide +kernel
theorem d_Md_print_1 : decode k_Md_print 1 = .ok (.aload_n 0, 1) := by decide +kernel
theorem d_Md_print_2 : decode k_Md_print 2 = .ok (.getfield 46, 3) := by decide +kernel
theorem d_Md_print_5 : decode k_Md_print 5 = .ok (.iconst 0, 1) := by decide +kernel
theorem d_Md_print_6 : decode k_Md_print 6 = .ok (.invokevirtual 281, 3) := by decide +kernel
theorem d_Md_print_9 : decode k_Md_print 9 = .ok (.istore_n 1, 1) := by decide +kernel
theorem d_Md_print_10 : decode k_Md_print 10 = .ok (.iload_n 1, 1) := by decide +kernel
theorem d_Md_print_11 : decode k_Md_print 11 = .ok (.ifCond .le (22), 3) := by decide +kernel
theorem d_Md_print_14 : decode k_Md_print 14 = .ok (.aload_n 0, 1) := by decide +kernel
theorem d_Md_print_15 : decode k_Md_print 15 = .ok (.getfield 263, 3) := by decide +kernel
theorem d_Md_print_18 : decode k_Md_print 18 = .ok (.sipush 200, 3) := by decide +kernel
theorem d_Md_print_21 : decode k_Md_print 21 = .ok (.if_icmp .ge (12), 3) := by decide +kernel
theorem d_Md_print_24 : decode k_Md_print 24 = .ok (.aload_n 0, 1) := by decide +kernel
theorem d_Md_print_25 : decode k_Md_print 25 = .ok (.iload_n 1, 1) := by decide +kernel
theorem d_Md_print_26 : decode k_Md_print 26 = .ok (.invokevirtual 284, 3) := by decide +kernel
theorem d_Md_print_29 : decode k_Md_print 29 = .ok (.istore_n 1, 1) := by decide +kernel
theorem d_Md_print_30 : decode k_Md_print 30 = .ok (.goto (-20), 3) := by decide +kernel
theorem d_Md_print_33 : decode k_Md_print 33 = .ok (.aload_n 0, 1) := by decide +kernel
theorem d_Md_print_34 : decode k_Md_print 34 = .ok (.bipush 10, 2) := by decide +kernel
theorem d_Md_print_36 : decode k_Md_print 36 = .ok (.invokevirtual 266, 3) := by decide +kernel
theorem d_Md_print_39 : decode k_Md_print 39 = .ok (.return_, 1) := by decide +kernel
theorem d_Md_outSize_0 : decode k_Md_outSize 0 = .ok (.aload_n 0, 1) := by decide +kernel
theorem d_Md_outSize_1 : decode k_Md_outSize 1 = .ok (.iconst 0, 1) := by decide +kernel
theorem d_Md_outSize_2 : decode k_Md_outSize 2 = .ok (.putfield 87, 3) := by decide +kernel
theorem d_Md_outSize_5 : decode k_Md_outSize 5 = .ok (.aload_n 0, 1) := by decide +kernel
theorem d_Md_outSize_6 : decode k_Md_outSize 6 = .ok (.getfield 263, 3) := by decide +kernel
theorem d_Md_outSize_9 : decode k_Md_outSize 9 = .ok (.ireturn, 1) := by decide +kernel
theorem d_Md_out_0 : decode k_Md_out 0 = .ok (.aload_n 0, 1) := by decide +kernel
theorem d_Md_out_1 : decode k_Md_out 1 = .ok (.iconst 0, 1) := by decide +kernel
theorem d_Md_out_2 : decode k_Md_out 2 = .ok (.putfield 87, 3) := by decide +kernel
theorem d_Md_out_5 : decode k_Md_out 5 = .ok (.iload_n 1, 1) := by decide +kernel
theorem d_Md_out_6 : decode k_Md_out 6 = .ok (.ifCond .lt (11), 3) := by decide +kernel
theorem d_Md_out_9 : decode k_Md_out 9 = .ok (.iload_n 1, 1) := by decide +kernel
theorem d_Md_out_10 : decode k_Md_out 10 = .ok (.aload_n 0, 1) := by decide +kernel
theorem d_Md_out_11 : decode k_Md_out 11 = .ok (.getfield 263, 3) := by decide +kernel
theorem d_Md_out_14 : decode k_Md_out 14 = .ok (.if_icmp .lt (7), 3) := by decide +kernel
theorem d_Md_out_17 : decode k_Md_out 17 = .ok (.iconst (-1), 1) := by decide +kernel
theorem d_Md_out_18 : decode k_Md_out 18 = .ok (.goto (9), 3) := by decide +kernel
theorem d_Md_out_21 : decode k_Md_out 21 = .ok (.aload_n 0, 1) := by decide +kernel
theorem d_Md_out_22 : decode k_Md_out 22 = .ok (.getfield 56, 3) := by decide +kernel
theorem d_Md_out_25 : decode k_Md_out 25 = .ok (.iload_n 1, 1) := by decide +kernel
theorem d_Md_out_26 : decode k_Md_out 26 = .ok (.caload, 1) := by decide +kernel
theorem d_Md_out_27 : decode k_Md_out 27 = .ok (.ireturn, 1) := by decide +kernel
theorem d_Md_clearOut_0 : decode k_Md_clearOut 0 = .ok (.aload_n 0, 1) := by decide +kernel
theorem d_Md_clearOut_1 : decode k_Md_clearOut 1 = .ok (.iconst 0, 1) := by decide +kernel
theorem d_Md_clearOut_2 : decode k_Md_clearOut 2 = .ok (.putfield 87, 3) := by decide +kernel
theorem d_Md_clearOut_5 : decode k_Md_clearOut 5 = .ok (.aload_n 0, 1) := by decide +kernel
theorem d_Md_clearOut_6 : decode k_Md_clearOut 6 = .ok (.iconst 0, 1) := by decide +kernel
theorem d_Md_clearOut_7 : decode k_Md_clearOut 7 = .ok (.putfield 263, 3) := by decide +kernel
theorem d_Md_clearOut_10 : decode k_Md_clearOut 10 = .ok (.return_, 1) := by decide +kernel
theorem d_Md_liveCells_0 : decode k_Md_liveCells 0 = .ok (.aload_n 0, 1) := by decide +kernel
theorem d_Md_liveCells_1 : decode k_Md_liveCells 1 = .ok (.iconst 0, 1) := by decide +kernel
theorem d_Md_liveCells_2 : decode k_Md_liveCells 2 = .ok (.putfield 87, 3) := by decide +kernel
theorem d_Md_liveCells_5 : decode k_Md_liveCells 5 = .ok (.aload_n 0, 1) := by decide +kernel
theorem d_Md_liveCells_6 : decode k_Md_liveCells 6 = .ok (.invokevirtual 103, 3) := by decide +kernel
theorem d_Md_liveCells_9 : decode k_Md_liveCells 9 = .ok (.ireturn, 1) := by decide +kernel
theorem d_Md_count_0 : decode k_Md_count 0 = .ok (.aload_n 0, 1) := by decide +kernel
theorem d_Md_count_1 : decode k_Md_count 1 = .ok (.iconst 0, 1) := by decide +kernel
theorem d_Md_count_2 : decode k_Md_count 2 = .ok (.putfield 87, 3) := by decide +kernel
theorem d_Md_count_5 : decode k_Md_count 5 = .ok (.iload_n 1, 1) := by decide +kernel
theorem d_Md_count_6 : decode k_Md_count 6 = .ok (.ifCond .ne (10), 3) := by decide +kernel
theorem d_Md_count_9 : decode k_Md_count 9 = .ok (.aload_n 0, 1) := by decide +kernel
theorem d_Md_count_10 : decode k_Md_count 10 = .ok (.getfield 111, 3) := by decide +kernel
theorem d_Md_count_13 : decode k_Md_count 13 = .ok (.goto (40), 3) := by decide +kernel
theorem d_Md_count_16 : decode k_Md_count 16 = .ok (.iload_n 1, 1) := by decide +kernel
theorem d_Md_count_17 : decode k_Md_count 17 = .ok (.iconst 1, 1) := by decide +kernel
theorem d_Md_count_18 : decode k_Md_count 18 = .ok (.if_icmp .ne (10), 3) := by decide +kernel
theorem d_Md_count_21 : decode k_Md_count 21 = .ok (.aload_n 0, 1) := by decide +kernel
theorem d_Md_count_22 : decode k_Md_count 22 = .ok (.getfield 100, 3) := by decide +kernel
theorem d_Md_count_25 : decode k_Md_count 25 = .ok (.goto (28), 3) := by decide +kernel
theorem d_Md_count_28 : decode k_Md_count 28 = .ok (.iload_n 1, 1) := by decide +kernel
theorem d_Md_count_29 : decode k_Md_count 29 = .ok (.iconst 2, 1) := by decide +kernel
theorem d_Md_count_30 : decode k_Md_count 30 = .ok (.if_icmp .ne (10), 3) := by decide +kernel
theorem d_Md_count_33 : decode k_Md_count 33 = .ok (.aload_n 0, 1) := by decide +kernel
theorem d_Md_count_34 : decode k_Md_count 34 = .ok (.getfield 84, 3) := by decide +kernel
theorem d_Md_count_37 : decode k_Md_count 37 = .ok (.goto (16), 3) := by decide +kernel
theorem d_Md_count_40 : decode k_Md_count 40 = .ok (.iload_n 1, 1) := by decide +kernel
theorem d_Md_count_41 : decode k_Md_count 41 = .ok (.iconst 3, 1) := by decide +kernel
theorem d_Md_count_42 : decode k_Md_count 42 = .ok (.if_icmp .ne (10), 3) := by decide +kernel
theorem d_Md_count_45 : decode k_Md_count 45 = .ok (.aload_n 0, 1) := by decide +kernel
theorem d_Md_count_46 : decode k_Md_count 46 = .ok (.getfield 165, 3) := by decide +kernel
theorem d_Md_count_49 : decode k_Md_count 49 = .ok (.goto (4), 3) := by decide +kernel
theorem d_Md_count_52 : decode k_Md_count 52 = .ok (.iconst (-1), 1) := by decide +kernel
theorem d_Md_count_53 : decode k_Md_count 53 = .ok (.ireturn, 1) := by decide +kernel
theorem d_Value_of_0 : decode k_Value_of 0 = .ok (.iload_n 1, 1) := by decide +kernel
theorem d_Value_of_1 : decode k_Value_of 1 = .ok (.iconst 3, 1) := by decide +kernel
theorem d_Value_of_2 : decode k_Value_of 2 = .ok (.ishl, 1) := by decide +kernel
theorem d_Value_of_3 : decode k_Value_of 3 = .ok (.iload_n 0, 1) := by decide +kernel
theorem d_Value_of_4 : decode k_Value_of 4 = .ok (.ior, 1) := by decide +kernel
theorem d_Value_of_5 : decode k_Value_of 5 = .ok (.ireturn, 1) := by decide +kernel
theorem d_Value_kind_0 : decode k_Value_kind 0 = .ok (.iload_n 0, 1) := by decide +kernel
theorem d_Value_kind_1 : decode k_Value_kind 1 = .ok (.bipush 7, 2) := by decide +kernel
theorem d_Value_kind_3 : decode k_Value_kind 3 = .ok (.iand, 1) := by decide +kernel
theorem d_Value_kind_4 : decode k_Value_kind 4 = .ok (.ireturn, 1) := by decide +kernel
theorem d_Value_content_0 : decode k_Value_content 0 = .ok (.iload_n 0, 1) := by decide +kernel
theorem d_Value_content_1 : decode k_Value_content 1 = .ok (.iconst 3, 1) := by decide +kernel
theorem d_Value_content_2 : decode k_Value_content 2 = .ok (.ishr, 1) := by decide +kernel
theorem d_Value_content_3 : decode k_Value_content 3 = .ok (.ireturn, 1) := by decide +kernel
theorem d_Value_isPair_0 : decode k_Value_isPair 0 = .ok (.iload_n 0, 1) := by decide +kernel
theorem d_Value_isPair_1 : decode k_Value_isPair 1 = .ok (.invokestatic 9, 3) := by decide +kernel
theorem d_Value_isPair_4 : decode k_Value_isPair 4 = .ok (.iconst 4, 1) := by decide +kernel
theorem d_Value_isPair_5 : decode k_Value_isPair 5 = .ok (.if_icmp .ne (7), 3) := by decide +kernel
theorem d_Value_isPair_8 : decode k_Value_isPair 8 = .ok (.iconst 1, 1) := by decide +kernel
theorem d_Value_isPair_9 : decode k_Value_isPair 9 = .ok (.goto (4), 3) := by decide +kernel
theorem d_Value_isPair_12 : decode k_Value_isPair 12 = .ok (.iconst 0, 1) := by decide +kernel
theorem d_Value_isPair_13 : decode k_Value_isPair 13 = .ok (.ireturn, 1) := by decide +kernel
theorem d_Value_isSymbol_0 : decode k_Value_isSymbol 0 = .ok (.iload_n 0, 1) := by decide +kernel
theorem d_Value_isSymbol_1 : decode k_Value_isSymbol 1 = .ok (.invokestatic 9, 3) := by decide +kernel
theorem d_Value_isSymbol_4 : decode k_Value_isSymbol 4 = .ok (.iconst 1, 1) := by decide +kernel
theorem d_Value_isSymbol_5 : decode k_Value_isSymbol 5 = .ok (.if_icmp .ne (7), 3) := by decide +kernel
theorem d_Value_isSymbol_8 : decode k_Value_isSymbol 8 = .ok (.iconst 1, 1) := by decide +kernel
theorem d_Value_isSymbol_9 : decode k_Value_isSymbol 9 = .ok (.goto (4), 3) := by decide +kernel
theorem d_Value_isSymbol_12 : decode k_Value_isSymbol 12 = .ok (.iconst 0, 1) := by decide +kernel
theorem d_Value_isSymbol_13 : decode k_Value_isSymbol 13 = .ok (.ireturn, 1) := by decide +kernel
theorem d_Value_isNumber_0 : decode k_Value_isNumber 0 = .ok (.iload_n 0, 1) := by decide +kernel
theorem d_Value_isNumber_1 : decode k_Value_isNumber 1 = .ok (.invokestatic 9, 3) := by decide +kernel
theorem d_Value_isNumber_4 : decode k_Value_isNumber 4 = .ok (.ifCond .ne (7), 3) := by decide +kernel
theorem d_Value_isNumber_7 : decode k_Value_isNumber 7 = .ok (.iconst 1, 1) := by decide +kernel
theorem d_Value_isNumber_8 : decode k_Value_isNumber 8 = .ok (.goto (4), 3) := by decide +kernel
theorem d_Value_isNumber_11 : decode k_Value_isNumber 11 = .ok (.iconst 0, 1) := by decide +kernel
theorem d_Value_isNumber_12 : decode k_Value_isNumber 12 = .ok (.ireturn, 1) := by decide +kernel
