theorem d_Printer_printText_0 : decode k_Printer_printText 0 = .ok (.iconst 0, 1) := by decide +kernel
theorem d_Printer_printText_1 : decode k_Printer_printText 1 = .ok (.istore_n 2, 1) := by decide +kernel
theorem d_Printer_printText_2 : decode k_Printer_printText 2 = .ok (.iload_n 2, 1) := by decide +kernel
theorem d_Printer_printText_3 : decode k_Printer_printText 3 = .ok (.aload_n 1, 1) := by decide +kernel
theorem d_Printer_printText_4 : decode k_Printer_printText 4 = .ok (.invokevirtual 95, 3) := by decide +kernel
theorem d_Printer_printText_7 : decode k_Printer_printText 7 = .ok (.if_icmp .ge (21), 3) := by decide +kernel
theorem d_Printer_printText_10 : decode k_Printer_printText 10 = .ok (.aload_n 0, 1) := by decide +kernel
theorem d_Printer_printText_11 : decode k_Printer_printText 11 = .ok (.getfield 7, 3) := by decide +kernel
theorem d_Printer_printText_14 : decode k_Printer_printText 14 = .ok (.aload_n 1, 1) := by decide +kernel
theorem d_Printer_printText_15 : decode k_Printer_printText 15 = .ok (.iload_n 2, 1) := by decide +kernel
theorem d_Printer_printText_16 : decode k_Printer_printText 16 = .ok (.invokevirtual 101, 3) := by decide +kernel
theorem d_Printer_printText_19 : decode k_Printer_printText 19 = .ok (.invokevirtual 25, 3) := by decide +kernel
theorem d_Printer_printText_22 : decode k_Printer_printText 22 = .ok (.iinc 2 1, 3) := by decide +kernel
theorem d_Printer_printText_25 : decode k_Printer_printText 25 = .ok (.goto (-23), 3) := by decide +kernel
theorem d_Printer_printText_28 : decode k_Printer_printText 28 = .ok (.return_, 1) := by decide +kernel
theorem mi_Printer_printText : pm_mi pmTs y_Printer_printText k_Printer_printText 3 none 1 := ⟨tw_612, tw_104, ⟨by decide, by decide⟩, by decide +kernel⟩
theorem d_Printer_print_0 : decode k_Printer_print 0 = .ok (.iload_n 1, 1) := by decide +kernel
theorem d_Printer_print_1 : decode k_Printer_print 1 = .ok (.invokestatic 31, 3) := by decide +kernel
theorem d_Printer_print_4 : decode k_Printer_print 4 = .ok (.tableswitch (102) (0) (5) #[40, 51, 102, 51, 69, 93], 40) := by decide +kernel
theorem d_Printer_print_44 : decode k_Printer_print 44 = .ok (.aload_n 0, 1) := by decide +kernel
theorem d_Printer_print_45 : decode k_Printer_print 45 = .ok (.iload_n 1, 1) := by decide +kernel
theorem d_Printer_print_46 : decode k_Printer_print 46 = .ok (.invokestatic 37, 3) := by decide +kernel
theorem d_Printer_print_49 : decode k_Printer_print 49 = .ok (.invokevirtual 40, 3) := by decide +kernel
theorem d_Printer_print_52 : decode k_Printer_print 52 = .ok (.goto (60), 3) := by decide +kernel
theorem d_Printer_print_55 : decode k_Printer_print 55 = .ok (.aload_n 0, 1) := by decide +kernel
theorem d_Printer_print_56 : decode k_Printer_print 56 = .ok (.aload_n 0, 1) := by decide +kernel
theorem d_Printer_print_57 : decode k_Printer_print 57 = .ok (.getfield 13, 3) := by decide +kernel
theorem d_Printer_print_60 : decode k_Printer_print 60 = .ok (.iload_n 1, 1) := by decide +kernel
theorem d_Printer_print_61 : decode k_Printer_print 61 = .ok (.invokestatic 37, 3) := by decide +kernel
theorem d_Printer_print_64 : decode k_Printer_print 64 = .ok (.invokevirtual 44, 3) := by decide +kernel
theorem d_Printer_print_67 : decode k_Printer_print 67 = .ok (.invokevirtual 50, 3) := by decide +kernel
theorem d_Printer_print_70 : decode k_Printer_print 70 = .ok (.goto (42), 3) := by decide +kernel
theorem d_Printer_print_73 : decode k_Printer_print 73 = .ok (.iload_n 2, 1) := by decide +kernel
theorem d_Printer_print_74 : decode k_Printer_print 74 = .ok (.bipush 16, 2) := by decide +kernel
theorem d_Printer_print_76 : decode k_Printer_print 76 = .ok (.if_icmp .lt (12), 3) := by decide +kernel
theorem d_Printer_print_79 : decode k_Printer_print 79 = .ok (.aload_n 0, 1) := by decide +kernel
theorem d_Printer_print_80 : decode k_Printer_print 80 = .ok (.ldc 54, 2) := by decide +kernel
theorem d_Printer_print_82 : decode k_Printer_print 82 = .ok (.invokevirtual 56, 3) := by decide +kernel
theorem d_Printer_print_85 : decode k_Printer_print 85 = .ok (.goto (27), 3) := by decide +kernel
theorem d_Printer_print_88 : decode k_Printer_print 88 = .ok (.aload_n 0, 1) := by decide +kernel
theorem d_Printer_print_89 : decode k_Printer_print 89 = .ok (.iload_n 1, 1) := by decide +kernel
theorem d_Printer_print_90 : decode k_Printer_print 90 = .ok (.iload_n 2, 1) := by decide +kernel
theorem d_Printer_print_91 : decode k_Printer_print 91 = .ok (.invokevirtual 60, 3) := by decide +kernel
theorem d_Printer_print_94 : decode k_Printer_print 94 = .ok (.goto (18), 3) := by decide +kernel
theorem d_Printer_print_97 : decode k_Printer_print 97 = .ok (.aload_n 0, 1) := by decide +kernel
theorem d_Printer_print_98 : decode k_Printer_print 98 = .ok (.ldc 63, 2) := by decide +kernel
theorem d_Printer_print_100 : decode k_Printer_print 100 = .ok (.invokevirtual 56, 3) := by decide +kernel
theorem d_Printer_print_103 : decode k_Printer_print 103 = .ok (.goto (9), 3) := by decide +kernel
theorem d_Printer_print_106 : decode k_Printer_print 106 = .ok (.aload_n 0, 1) := by decide +kernel
theorem d_Printer_print_107 : decode k_Printer_print 107 = .ok (.ldc 65, 2) := by decide +kernel
theorem d_Printer_print_109 : decode k_Printer_print 109 = .ok (.invokevirtual 56, 3) := by decide +kernel
theorem d_Printer_print_112 : decode k_Printer_print 112 = .ok (.return_, 1) := by decide +kernel
theorem mi_Printer_print : pm_mi pmTs y_Printer_print k_Printer_print 3 none 2 := ⟨tw_588, tw_104, ⟨by decide, by decide⟩, by decide +kernel⟩
theorem d_Printer_printList_0 : decode k_Printer_printList 0 = .ok (.iload_n 1, 1) := by decide +kernel
theorem d_Printer_printList_1 : decode k_Printer_printList 1 = .ok (.istore_n 3, 1) := by decide +kernel
theorem d_Printer_printList_2 : decode k_Printer_printList 2 = .ok (.iconst 0, 1) := by decide +kernel
theorem d_Printer_printList_3 : decode k_Printer_printList 3 = .ok (.istore 4, 2) := by decide +kernel
theorem d_Printer_printList_5 : decode k_Printer_printList 5 = .ok (.iload 4, 2) := by decide +kernel
theorem d_Printer_printList_7 : decode k_Printer_printList 7 = .ok (.bipush 40, 2) := by decide +kernel
theorem d_Printer_printList_9 : decode k_Printer_printList 9 = .ok (.if_icmp .ge (69), 3) := by decide +kernel
theorem d_Printer_printList_12 : decode k_Printer_printList 12 = .ok (.iload_n 3, 1) := by decide +kernel
theorem d_Printer_printList_13 : decode k_Printer_printList 13 = .ok (.invokestatic 67, 3) := by decide +kernel
theorem d_Printer_printList_16 : decode k_Printer_printList 16 = .ok (.ifCond .eq (62), 3) := by decide +kernel
theorem d_Printer_printList_19 : decode k_Printer_printList 19 = .ok (.aload_n 0, 1) := by decide +kernel
theorem d_Printer_printList_20 : decode k_Printer_printList 20 = .ok (.getfield 7, 3) := by decide +kernel
theorem d_Printer_printList_23 : decode k_Printer_printList 23 = .ok (.invokevirtual 71, 3) := by decide +kernel
theorem d_Printer_printList_26 : decode k_Printer_printList 26 = .ok (.ifCond .ne (52), 3) := by decide +kernel
theorem d_Printer_printList_29 : decode k_Printer_printList 29 = .ok (.aload_n 0, 1) := by decide +kernel
theorem d_Printer_printList_30 : decode k_Printer_printList 30 = .ok (.getfield 7, 3) := by decide +kernel
theorem d_Printer_printList_33 : decode k_Printer_printList 33 = .ok (.iload 4, 2) := by decide +kernel
theorem d_Printer_printList_35 : decode k_Printer_printList 35 = .ok (.ifCond .ne (8), 3) := by decide +kernel
theorem d_Printer_printList_38 : decode k_Printer_printList 38 = .ok (.bipush 40, 2) := by decide +kernel
theorem d_Printer_printList_40 : decode k_Printer_printList 40 = .ok (.goto (5), 3) := by decide +kernel
theorem d_Printer_printList_43 : decode k_Printer_printList 43 = .ok (.bipush 32, 2) := by decide +kernel
theorem d_Printer_printList_45 : decode k_Printer_printList 45 = .ok (.invokevirtual 25, 3) := by decide +kernel
theorem d_Printer_printList_48 : decode k_Printer_printList 48 = .ok (.aload_n 0, 1) := by decide +kernel
theorem d_Printer_printList_49 : decode k_Printer_printList 49 = .ok (.aload_n 0, 1) := by decide +kernel
theorem d_Printer_printList_50 : decode k_Printer_printList 50 = .ok (.getfield 17, 3) := by decide +kernel
theorem d_Printer_printList_53 : decode k_Printer_printList 53 = .ok (.iload_n 3, 1) := by decide +kernel
theorem d_Printer_printList_54 : decode k_Printer_printList 54 = .ok (.invokevirtual 75, 3) := by decide +kernel
theorem d_Printer_printList_57 : decode k_Printer_printList 57 = .ok (.iload_n 2, 1) := by decide +kernel
theorem d_Printer_printList_58 : decode k_Printer_printList 58 = .ok (.iconst 1, 1) := by decide +kernel
theorem d_Printer_printList_59 : decode k_Printer_printList 59 = .ok (.iadd, 1) := by decide +kernel
theorem d_Printer_printList_60 : decode k_Printer_printList 60 = .ok (.invokevirtual 21, 3) := by decide +kernel
theorem d_Printer_printList_63 : decode k_Printer_printList 63 = .ok (.aload_n 0, 1) := by decide +kernel
theorem d_Printer_printList_64 : decode k_Printer_printList 64 = .ok (.getfield 17, 3) := by decide +kernel
theorem d_Printer_printList_67 : decode k_Printer_printList 67 = .ok (.iload_n 3, 1) := by decide +kernel
theorem d_Printer_printList_68 : decode k_Printer_printList 68 = .ok (.invokevirtual 80, 3) := by decide +kernel
theorem d_Printer_printList_71 : decode k_Printer_printList 71 = .ok (.istore_n 3, 1) := by decide +kernel
theorem d_Printer_printList_72 : decode k_Printer_printList 72 = .ok (.iinc 4 1, 3) := by decide +kernel
theorem d_Printer_printList_75 : decode k_Printer_printList 75 = .ok (.goto (-70), 3) := by decide +kernel
theorem d_Printer_printList_78 : decode k_Printer_printList 78 = .ok (.iload_n 3, 1) := by decide +kernel
theorem d_Printer_printList_79 : decode k_Printer_printList 79 = .ok (.invokestatic 67, 3) := by decide +kernel
theorem d_Printer_printList_82 : decode k_Printer_printList 82 = .ok (.ifCond .eq (12), 3) := by decide +kernel
theorem d_Printer_printList_85 : decode k_Printer_printList 85 = .ok (.aload_n 0, 1) := by decide +kernel
theorem d_Printer_printList_86 : decode k_Printer_printList 86 = .ok (.ldc 83, 2) := by decide +kernel
theorem d_Printer_printList_88 : decode k_Printer_printList 88 = .ok (.invokevirtual 56, 3) := by decide +kernel
theorem d_Printer_printList_91 : decode k_Printer_printList 91 = .ok (.goto (22), 3) := by decide +kernel
theorem d_Printer_printList_94 : decode k_Printer_printList 94 = .ok (.iload_n 3, 1) := by decide +kernel
theorem d_Printer_printList_95 : decode k_Printer_printList 95 = .ok (.iconst 2, 1) := by decide +kernel
theorem d_Printer_printList_96 : decode k_Printer_printList 96 = .ok (.if_icmp .eq (17), 3) := by decide +kernel
theorem d_Printer_printList_99 : decode k_Printer_printList 99 = .ok (.aload_n 0, 1) := by decide +kernel
theorem d_Printer_printList_100 : decode k_Printer_printList 100 = .ok (.ldc 85, 2) := by decide +kernel
theorem d_Printer_printList_102 : decode k_Printer_printList 102 = .ok (.invokevirtual 56, 3) := by decide +kernel
theorem d_Printer_printList_105 : decode k_Printer_printList 105 = .ok (.aload_n 0, 1) := by decide +kernel
theorem d_Printer_printList_106 : decode k_Printer_printList 106 = .ok (.iload_n 3, 1) := by decide +kernel
theorem d_Printer_printList_107 : decode k_Printer_printList 107 = .ok (.iload_n 2, 1) := by decide +kernel
theorem d_Printer_printList_108 : decode k_Printer_printList 108 = .ok (.iconst 1, 1) := by decide +kernel
theorem d_Printer_printList_109 : decode k_Printer_printList 109 = .ok (.iadd, 1) := by decide +kernel
theorem d_Printer_printList_110 : decode k_Printer_printList 110 = .ok (.invokevirtual 21, 3) := by decide +kernel
theorem d_Printer_printList_113 : decode k_Printer_printList 113 = .ok (.aload_n 0, 1) := by decide +kernel
theorem d_Printer_printList_114 : decode k_Printer_printList 114 = .ok (.getfield 7, 3) := by decide +kernel
theorem d_Printer_printList_117 : decode k_Printer_printList 117 = .ok (.bipush 41, 2) := by decide +kernel
theorem d_Printer_printList_119 : decode k_Printer_printList 119 = .ok (.invokevirtual 25, 3) := by decide +kernel
theorem d_Printer_printList_122 : decode k_Printer_printList 122 = .ok (.return_, 1) := by decide +kernel
theorem mi_Printer_printList : pm_mi pmTs y_Printer_printList k_Printer_printList 5 none 2 := ⟨tw_617, tw_104, ⟨by decide, by decide⟩, by decide +kernel⟩
theorem d_Printer_printLine_0 : decode k_Printer_printLine 0 = .ok (.aload_n 0, 1) := by decide +kernel
theorem d_Printer_printLine_1 : decode k_Printer_printLine 1 = .ok (.iload_n 1, 1) := by decide +kernel
theorem d_Printer_printLine_2 : decode k_Printer_printLine 2 = .ok (.iconst 0, 1) := by decide +kernel
theorem d_Printer_printLine_3 : decode k_Printer_printLine 3 = .ok (.invokevirtual 21, 3) := by decide +kernel
theorem d_Printer_printLine_6 : decode k_Printer_printLine 6 = .ok (.aload_n 0, 1) := by decide +kernel
theorem d_Printer_printLine_7 : decode k_Printer_printLine 7 = .ok (.getfield 7, 3) := by decide +kernel
theorem d_Printer_printLine_10 : decode k_Printer_printLine 10 = .ok (.bipush 10, 2) := by decide +kernel
theorem d_Printer_printLine_12 : decode k_Printer_printLine 12 = .ok (.invokevirtual 25, 3) := by decide +kernel
theorem d_Printer_printLine_15 : decode k_Printer_printLine 15 = .ok (.return_, 1) := by decide +kernel
theorem mi_Printer_printLine : pm_mi pmTs y_Printer_printLine k_Printer_printLine 2 none 1 := ⟨tw_585, tw_104, ⟨by decide, by decide⟩, by decide +kernel⟩
theorem d_Machine_giveBack_0 : decode k_Machine_giveBack 0 = .ok (.aload_n 0, 1) := by decide +kernel
theorem d_Machine_giveBack_1 : decode k_Machine_giveBack 1 = .ok (.getfield 9, 3) := by decide +kernel
theorem d_Machine_giveBack_4 : decode k_Machine_giveBack 4 = .ok (.invokevirtual 152, 3) := by decide +kernel
theorem d_Machine_giveBack_7 : decode k_Machine_giveBack 7 = .ok (.tableswitch (79) (1) (4) #[29, 34, 39, 44], 29) := by decide +kernel
theorem d_Machine_giveBack_36 : decode k_Machine_giveBack 36 = .ok (.aload_n 0, 1) := by decide +kernel
theorem d_Machine_giveBack_37 : decode k_Machine_giveBack 37 = .ok (.invokevirtual 155, 3) := by decide +kernel
theorem d_Machine_giveBack_40 : decode k_Machine_giveBack 40 = .ok (.ireturn, 1) := by decide +kernel
theorem d_Machine_giveBack_41 : decode k_Machine_giveBack 41 = .ok (.aload_n 0, 1) := by decide +kernel
theorem d_Machine_giveBack_42 : decode k_Machine_giveBack 42 = .ok (.invokevirtual 158, 3) := by decide +kernel
theorem d_Machine_giveBack_45 : decode k_Machine_giveBack 45 = .ok (.ireturn, 1) := by decide +kernel
theorem d_Machine_giveBack_46 : decode k_Machine_giveBack 46 = .ok (.aload_n 0, 1) := by decide +kernel
theorem d_Machine_giveBack_47 : decode k_Machine_giveBack 47 = .ok (.invokevirtual 161, 3) := by decide +kernel
theorem d_Machine_giveBack_50 : decode k_Machine_giveBack 50 = .ok (.ireturn, 1) := by decide +kernel
theorem d_Machine_giveBack_51 : decode k_Machine_giveBack 51 = .ok (.aload_n 0, 1) := by decide +kernel
theorem d_Machine_giveBack_52 : decode k_Machine_giveBack 52 = .ok (.invokevirtual 164, 3) := by decide +kernel
theorem d_Machine_giveBack_55 : decode k_Machine_giveBack 55 = .ok (.ifCond .ne (6), 3) := by decide +kernel
theorem d_Machine_giveBack_58 : decode k_Machine_giveBack 58 = .ok (.bipush (-7), 2) := by decide +kernel
theorem d_Machine_giveBack_60 : decode k_Machine_giveBack 60 = .ok (.ireturn, 1) := by decide +kernel
theorem d_Machine_giveBack_61 : decode k_Machine_giveBack 61 = .ok (.aload_n 0, 1) := by decide +kernel
theorem d_Machine_giveBack_62 : decode k_Machine_giveBack 62 = .ok (.getfield 9, 3) := by decide +kernel
theorem d_Machine_giveBack_65 : decode k_Machine_giveBack 65 = .ok (.invokevirtual 168, 3) := by decide +kernel
theorem d_Machine_giveBack_68 : decode k_Machine_giveBack 68 = .ok (.invokestatic 87, 3) := by decide +kernel
theorem d_Machine_giveBack_71 : decode k_Machine_giveBack 71 = .ok (.ifCond .eq (10), 3) := by decide +kernel
theorem d_Machine_giveBack_74 : decode k_Machine_giveBack 74 = .ok (.aload_n 0, 1) := by decide +kernel
theorem d_Machine_giveBack_75 : decode k_Machine_giveBack 75 = .ok (.invokevirtual 171, 3) := by decide +kernel
theorem d_Machine_giveBack_78 : decode k_Machine_giveBack 78 = .ok (.goto (7), 3) := by decide +kernel
theorem d_Machine_giveBack_81 : decode k_Machine_giveBack 81 = .ok (.aload_n 0, 1) := by decide +kernel
theorem d_Machine_giveBack_82 : decode k_Machine_giveBack 82 = .ok (.invokevirtual 174, 3) := by decide +kernel
theorem d_Machine_giveBack_85 : decode k_Machine_giveBack 85 = .ok (.ireturn, 1) := by decide +kernel
theorem d_Machine_giveBack_86 : decode k_Machine_giveBack 86 = .ok (.aload_n 0, 1) := by decide +kernel
theorem d_Machine_giveBack_87 : decode k_Machine_giveBack 87 = .ok (.getfield 27, 3) := by decide +kernel
theorem d_Machine_giveBack_90 : decode k_Machine_giveBack 90 = .ok (.aload_n 0, 1) := by decide +kernel
theorem d_Machine_giveBack_91 : decode k_Machine_giveBack 91 = .ok (.getfield 9, 3) := by decide +kernel
theorem d_Machine_giveBack_94 : decode k_Machine_giveBack 94 = .ok (.getfield 71, 3) := by decide +kernel
theorem d_Machine_giveBack_97 : decode k_Machine_giveBack 97 = .ok (.invokevirtual 177, 3) := by decide +kernel
theorem d_Machine_giveBack_100 : decode k_Machine_giveBack 100 = .ok (.iconst 0, 1) := by decide +kernel
theorem d_Machine_giveBack_101 : decode k_Machine_giveBack 101 = .ok (.ireturn, 1) := by decide +kernel
theorem mi_Machine_giveBack : pm_mi pmTs y_Machine_giveBack k_Machine_giveBack 1 (some .int) 0 := ⟨tw_496, tw_102, ⟨by decide, by decide⟩, by decide +kernel⟩
theorem d_Machine_step_0 : decode k_Machine_step 0 = .ok (.aload_n 0, 1) := by decide +kernel
theorem d_Machine_step_1 : decode k_Machine_step 1 = .ok (.getfield 31, 3) := by decide +kernel
theorem d_Machine_step_4 : decode k_Machine_step 4 = .ok (.ifCond .ne (8), 3) := by decide +kernel
theorem d_Machine_step_7 : decode k_Machine_step 7 = .ok (.aload_n 0, 1) := by decide +kernel
theorem d_Machine_step_8 : decode k_Machine_step 8 = .ok (.invokevirtual 35, 3) := by decide +kernel
theorem d_Machine_step_11 : decode k_Machine_step 11 = .ok (.ireturn, 1) := by decide +kernel
theorem d_Machine_step_12 : decode k_Machine_step 12 = .ok (.aload_n 0, 1) := by decide +kernel
theorem d_Machine_step_13 : decode k_Machine_step 13 = .ok (.dup, 1) := by decide +kernel
theorem d_Machine_step_14 : decode k_Machine_step 14 = .ok (.getfield 39, 3) := by decide +kernel
theorem d_Machine_step_17 : decode k_Machine_step 17 = .ok (.iconst 1, 1) := by decide +kernel
theorem d_Machine_step_18 : decode k_Machine_step 18 = .ok (.iadd, 1) := by decide +kernel
theorem d_Machine_step_19 : decode k_Machine_step 19 = .ok (.putfield 39, 3) := by decide +kernel
theorem d_Machine_step_22 : decode k_Machine_step 22 = .ok (.aload_n 0, 1) := by decide +kernel
theorem d_Machine_step_23 : decode k_Machine_step 23 = .ok (.getfield 9, 3) := by decide +kernel
theorem d_Machine_step_26 : decode k_Machine_step 26 = .ok (.getfield 43, 3) := by decide +kernel
theorem d_Machine_step_29 : decode k_Machine_step 29 = .ok (.ifCond .eq (10), 3) := by decide +kernel
theorem d_Machine_step_32 : decode k_Machine_step 32 = .ok (.aload_n 0, 1) := by decide +kernel
theorem d_Machine_step_33 : decode k_Machine_step 33 = .ok (.invokevirtual 48, 3) := by decide +kernel
theorem d_Machine_step_36 : decode k_Machine_step 36 = .ok (.goto (7), 3) := by decide +kernel
theorem d_Machine_step_39 : decode k_Machine_step 39 = .ok (.aload_n 0, 1) := by decide +kernel
theorem d_Machine_step_40 : decode k_Machine_step 40 = .ok (.invokevirtual 51, 3) := by decide +kernel
theorem d_Machine_step_43 : decode k_Machine_step 43 = .ok (.istore_n 1, 1) := by decide +kernel
theorem d_Machine_step_44 : decode k_Machine_step 44 = .ok (.iload_n 1, 1) := by decide +kernel
theorem d_Machine_step_45 : decode k_Machine_step 45 = .ok (.iconst 1, 1) := by decide +kernel
theorem d_Machine_step_46 : decode k_Machine_step 46 = .ok (.if_icmp .eq (7), 3) := by decide +kernel
theorem d_Machine_step_49 : decode k_Machine_step 49 = .ok (.aload_n 0, 1) := by decide +kernel
theorem d_Machine_step_50 : decode k_Machine_step 50 = .ok (.invokevirtual 54, 3) := by decide +kernel
theorem d_Machine_step_53 : decode k_Machine_step 53 = .ok (.iload_n 1, 1) := by decide +kernel
theorem d_Machine_step_54 : decode k_Machine_step 54 = .ok (.ireturn, 1) := by decide +kernel
theorem mi_Machine_step : pm_mi pmTs y_Machine_step k_Machine_step 2 (some .int) 0 := ⟨tw_312, tw_102, ⟨by decide, by decide⟩, by decide +kernel⟩
theorem d_CL_run_0 : decode k_CL_run 0 = .ok (.iconst 1, 1) := by decide +kernel
theorem d_CL_run_1 : decode k_CL_run 1 = .ok (.iload_n 1, 1) := by decide +kernel
theorem d_CL_run_2 : decode k_CL_run 2 = .ok (.sipush 1000, 3) := by decide +kernel
theorem d_CL_run_5 : decode k_CL_run 5 = .ok (.invokestatic 39, 3) := by decide +kernel
theorem d_CL_run_8 : decode k_CL_run 8 = .ok (.invokestatic 45, 3) := by decide +kernel
theorem d_CL_run_11 : decode k_CL_run 11 = .ok (.istore_n 2, 1) := by decide +kernel
theorem d_CL_run_12 : decode k_CL_run 12 = .ok (.iconst 1, 1) := by decide +kernel
theorem d_CL_run_13 : decode k_CL_run 13 = .ok (.istore_n 3, 1) := by decide +kernel
theorem d_CL_run_14 : decode k_CL_run 14 = .ok (.iconst 0, 1) := by decide +kernel
theorem d_CL_run_15 : decode k_CL_run 15 = .ok (.istore 4, 2) := by decide +kernel
theorem d_CL_run_17 : decode k_CL_run 17 = .ok (.iload 4, 2) := by decide +kernel
theorem d_CL_run_19 : decode k_CL_run 19 = .ok (.iload_n 2, 1) := by decide +kernel
theorem d_CL_run_20 : decode k_CL_run 20 = .ok (.if_icmp .ge (22), 3) := by decide +kernel
theorem d_CL_run_23 : decode k_CL_run 23 = .ok (.iload_n 3, 1) := by decide +kernel
theorem d_CL_run_24 : decode k_CL_run 24 = .ok (.iconst 1, 1) := by decide +kernel
theorem d_CL_run_25 : decode k_CL_run 25 = .ok (.if_icmp .ne (17), 3) := by decide +kernel
theorem d_CL_run_28 : decode k_CL_run 28 = .ok (.aload_n 0, 1) := by decide +kernel
theorem d_CL_run_29 : decode k_CL_run 29 = .ok (.getfield 70, 3) := by decide +kernel
theorem d_CL_run_32 : decode k_CL_run 32 = .ok (.invokevirtual 78, 3) := by decide +kernel
theorem d_CL_run_35 : decode k_CL_run 35 = .ok (.istore_n 3, 1) := by decide +kernel
theorem d_CL_run_36 : decode k_CL_run 36 = .ok (.iinc 4 1, 3) := by decide +kernel
theorem d_CL_run_39 : decode k_CL_run 39 = .ok (.goto (-22), 3) := by decide +kernel
theorem d_CL_run_42 : decode k_CL_run 42 = .ok (.iload_n 3, 1) := by decide +kernel
theorem d_CL_run_43 : decode k_CL_run 43 = .ok (.ireturn, 1) := by decide +kernel
theorem mi_CL_run : pm_mi pmTs y_CL_run k_CL_run 5 (some .int) 1 := ⟨tw_308, tw_90, ⟨by decide, by decide⟩, by decide +kernel⟩
def rmA (d : Nat) : Room := { frames := 6 + 2 * d, cells := 0, slots := 0, locals := 120 + 60 * d }
def rmB (d : Nat) : Room := { frames := 7 + 2 * d, cells := 0, slots := 0, locals := 150 + 60 * d }
theorem rm_print_ok {d : Nat} : pm_rm (rmB d) (rmA (d + 1)) 5 := ⟨rfl, rfl, by simp only [rmA, rmB]; omega, by simp only [rmA, rmB]; omega⟩
theorem rm_printList_ok {d : Nat} : pm_rm (rmA d) (rmB d) 3 := ⟨rfl, rfl, by simp only [rmA, rmB]; omega, by simp only [rmA, rmB]; omega⟩
def b_Printer_printText_2 (S : Nat) (rec : Nat → Nat → Int32 → pm_W → Option pm_W) (k1 : Nat) (x2 : Int32) (w : pm_W) : Option pm_W :=
  if k1 < 6 then
    if (nI (st_len.getD k1 0)) ≤ x2 then
      some w
    else
      if k1 < 6 then
        if x2 < 0 ∨ st_len.getD k1 0 ≤ x2.toNatClampNeg then none else
        if x2 < nI (st_len.getD k1 0) then
          Option.bind (f_Output_put S (st_ch k1 x2) w) fun o6 =>
          rec 0 k1 (x2 + (1 : Int32)) o6
        else none
      else none
  else none
def l_Printer_printText (S : Nat) : Nat → Nat → Nat → Int32 → pm_W → Option pm_W := pm_it (fun _ _ _ _ => none) (fun rec k k1 x2 w => b_Printer_printText_2  S rec k1 x2 w)
def f_Printer_printText (S : Nat) (k1 : Nat) (w : pm_W) : Option pm_W :=
  (l_Printer_printText  S pm_fuel) 0 k1 (0 : Int32) w
set_option maxHeartbeats 4000000 in
set_option maxRecDepth 100000 in
theorem t_Printer_printText_2 {p : Program} {l : Launch} {e : Env} {s : State} {m : MethodId} {args : Array Value} {below : List Frame} {meth : Method} {c : Code} {D : va_G} {ca : Nat → ClassId} {ad : Nat → Nat} {adK adV : Nat → Nat} {S : Nat} (K : pm_ok p s m args meth c k_Printer_printText 3 pmTs R_Printer D vwCl (tyl ca) (shC S) ad (st_E adK adV) none) (rec : Nat → Nat → Int32 → pm_W → Option pm_W) (w' : pm_W) (h2 : ∀ (k1 : Nat) (x2 : Int32) (w : pm_W), rec 0 k1 x2 w = some w' → pm_wk p l e { frames := 4, cells := 0, slots := 0, locals := 87 } s m args below meth c D vwCl (shC S) ca ad 3 (none, w') 2 [(0, .ref (ad 8)), (1, .ref (adK k1)), (2, .int x2)] [] w) (k1 : Nat) (x2 : Int32) (w : pm_W) (hf : b_Printer_printText_2  S rec k1 x2 w = some w') : pm_wk p l e { frames := 4, cells := 0, slots := 0, locals := 87 } s m args below meth c D vwCl (shC S) ca ad 3 (none, w') 2 [(0, .ref (ad 8)), (1, .ref (adK k1)), (2, .int x2)] [] w := by
  unfold b_Printer_printText_2 at hf
  refine pm_iload_n K d_Printer_printText_2 2 rfl rfl ?_
  refine pm_aload_n K d_Printer_printText_3 1 rfl rfl ?_
  obtain ⟨q1, hf⟩ := pm_chk hf
  refine pm_callX (As := []) (rest := [.int x2]) (b := adK k1) K (cs_length k1 q1 w) mis_length (fun H locs hS => vk_recv K.2.2.2.2.2.2.2.2.2.2.2.1.1 q1 hS) tw_139 tw_140 tw_613 rfl ⟨rfl, rfl, Nat.le_of_ble_eq_true rfl, Nat.le_of_ble_eq_true rfl⟩ rfl (Nat.le_of_ble_eq_true rfl) d_Printer_printText_4 ?_
  refine pm_icmp_ge K d_Printer_printText_7 28 (by decide) (fun c2 => ?_) (fun c2 => ?_)
  · have hf := pm_ift c2 hf
    cases hf
    exact pm_vret K d_Printer_printText_28
  · have hf := pm_iff c2 hf
    refine pm_aload_n K d_Printer_printText_10 0 rfl rfl ?_
    refine pm_getR K fc_8 (o := 8) rfl 0 rfl (by decide) tw_273 d_Printer_printText_11 ?_
    refine pm_aload_n K d_Printer_printText_14 1 rfl rfl ?_
    refine pm_iload_n K d_Printer_printText_15 2 rfl rfl ?_
    obtain ⟨q3, hf⟩ := pm_chk hf
    obtain ⟨q4, hf⟩ := pm_bnd hf
    obtain ⟨q5, hf⟩ := pm_chk hf
    refine pm_callX (As := [.int x2]) (rest := [.ref (ad 2)]) (b := adK k1) K (cs_charAt k1 q3 x2 q4 q5 w) mis_charAt (fun H locs hS => vk_recv K.2.2.2.2.2.2.2.2.2.2.2.1.1 q3 hS) tw_148 tw_149 tw_614 rfl ⟨rfl, rfl, Nat.le_of_ble_eq_true rfl, Nat.le_of_ble_eq_true rfl⟩ rfl (Nat.le_of_ble_eq_true rfl) d_Printer_printText_16 ?_
    obtain ⟨o6, z6, hf⟩ := pm_bind hf
    refine pm_callV (As := [.int (st_ch k1 x2)]) (rest := []) (o := 2) K (c_Output_put K.2.2.2.2.2.2.2.2.2.2.2.2 o6 (st_ch k1 x2) w z6) mi_Output_put rfl rfl tw_595 tw_596 tw_594 rfl ⟨rfl, rfl, Nat.le_of_ble_eq_true rfl, Nat.le_of_ble_eq_true rfl⟩ rfl (Nat.le_of_ble_eq_true rfl) d_Printer_printText_19 ?_
    refine pm_iinc (v := x2 + (1 : Int32)) (lv' := [(2, .int (x2 + (1 : Int32))), (0, .ref (ad 8)), (1, .ref (adK k1))]) K d_Printer_printText_22 2 rfl rfl (by decide) rfl ?_
    refine pm_goto K d_Printer_printText_25 2 (by decide) ?_
    refine pm_sub (lv' := [(0, .ref (ad 8)), (1, .ref (adK k1)), (2, .int (x2 + (1 : Int32)))]) [1, 2, 0] rfl ?_
    exact h2 k1 (x2 + (1 : Int32)) o6 hf
set_option maxHeartbeats 4000000 in
set_option maxRecDepth 100000 in
theorem a_Printer_printText {p : Program} {l : Launch} {e : Env} {s : State} {m : MethodId} {args : Array Value} {below : List Frame} {meth : Method} {c : Code} {D : va_G} {ca : Nat → ClassId} {ad : Nat → Nat} {adK adV : Nat → Nat} {S : Nat} (K : pm_ok p s m args meth c k_Printer_printText 3 pmTs R_Printer D vwCl (tyl ca) (shC S) ad (st_E adK adV) none) (w' : pm_W) : ∀ n : Nat, (∀ (k1 : Nat) (x2 : Int32) (w : pm_W), l_Printer_printText  S n 0 k1 x2 w = some w' → pm_wk p l e { frames := 4, cells := 0, slots := 0, locals := 87 } s m args below meth c D vwCl (shC S) ca ad 3 (none, w') 2 [(0, .ref (ad 8)), (1, .ref (adK k1)), (2, .int x2)] [] w) := by
  intro n
  induction n with
  | zero => exact fun _ _ _ hf => (by cases hf)
  | succ n ih => exact fun k1 x2 w hf => t_Printer_printText_2 K (l_Printer_printText S n) w' (ih) k1 x2 w hf
set_option maxHeartbeats 4000000 in
set_option maxRecDepth 100000 in
theorem t_Printer_printText {p : Program} {l : Launch} {e : Env} {s : State} {m : MethodId} {args : Array Value} {below : List Frame} {meth : Method} {c : Code} {D : va_G} {ca : Nat → ClassId} {ad : Nat → Nat} {adK adV : Nat → Nat} {S : Nat} (K : pm_ok p s m args meth c k_Printer_printText 3 pmTs R_Printer D vwCl (tyl ca) (shC S) ad (st_E adK adV) none) (w' : pm_W) (k1 : Nat) (w : pm_W) (hf : f_Printer_printText  S k1 w = some w') : pm_wk p l e { frames := 4, cells := 0, slots := 0, locals := 87 } s m args below meth c D vwCl (shC S) ca ad 3 (none, w') 0 [(0, .ref (ad 8)), (1, .ref (adK k1))] [] w := by
  unfold f_Printer_printText at hf
  have h2 := (a_Printer_printText (l := l) (e := e) (below := below) K  w' pm_fuel)
  refine pm_iconst (v := 0) K d_Printer_printText_0 (by decide) ?_
  refine pm_istore_n (lv' := [(2, .int (0 : Int32)), (0, .ref (ad 8)), (1, .ref (adK k1))]) K d_Printer_printText_1 rfl (by decide) rfl ?_
  refine pm_sub (lv' := [(0, .ref (ad 8)), (1, .ref (adK k1)), (2, .int (0 : Int32))]) [1, 2, 0] rfl ?_
  exact h2 k1 (0 : Int32) w hf
/-- CellLisp$Printer.printText(Ljava/lang/String;)V -/
theorem c_Printer_printText {l : Launch} {D : va_G} {ca : Nat → ClassId} {ad : Nat → Nat} {adK adV : Nat → Nat} {S : Nat} (w' : pm_W) (k1 : Nat) (w : pm_W) (hf : f_Printer_printText  S k1 w = some w') : pm_Met l pmTs D vwCl (tyl ca) (shC S) ca ad (st_E adK adV) y_Printer_printText k_Printer_printText 3 none { frames := 4, cells := 0, slots := 0, locals := 87 } [.ref (ad 8), .ref (adK k1)] w (none, w') :=
  pm_start pmTs_good (st_cl adK adV) (by decide) (Nat.le_of_ble_eq_true rfl) (fun p e s m below meth c K => t_Printer_printText K w' k1 w hf)

def f_Printer_print (S : Nat) (pl : Int32 → Int32 → pm_W → Option pm_W) (x1 : Int32) (x2 : Int32) (w : pm_W) : Option pm_W :=
  Option.bind (f_Value_kind S x1 w) fun o1 =>
  if o1.1 = (0 : Int32) then
    Option.bind (f_Value_content S x1 o1.2) fun o3 =>
    Option.bind (f_Printer_printNumber S o3.1 o3.2) fun o4 =>
    some o4
  else
    if o1.1 = (1 : Int32) then
      Option.bind (f_Value_content S x1 o1.2) fun o6 =>
      Option.bind (f_Symbols_name S o6.1 o6.2) fun o7 =>
      Option.bind (f_Printer_printName S o7.1 o7.2) fun o8 =>
      some o8
    else
      if o1.1 = (2 : Int32) then
        Option.bind (f_Printer_printText S 5 o1.2) fun o10 =>
        some o10
      else
        if o1.1 = (3 : Int32) then
          Option.bind (f_Value_content S x1 o1.2) fun o12 =>
          Option.bind (f_Symbols_name S o12.1 o12.2) fun o13 =>
          Option.bind (f_Printer_printName S o13.1 o13.2) fun o14 =>
          some o14
        else
          if o1.1 = (4 : Int32) then
            if x2 < (16 : Int32) then
              Option.bind (pl x1 x2 o1.2) fun o17 =>
              some o17
            else
              Option.bind (f_Printer_printText S 1 o1.2) fun o18 =>
              some o18
          else
            if o1.1 = (5 : Int32) then
              Option.bind (f_Printer_printText S 4 o1.2) fun o20 =>
              some o20
            else
              Option.bind (f_Printer_printText S 5 o1.2) fun o21 =>
              some o21
set_option maxHeartbeats 4000000 in
set_option maxRecDepth 100000 in
theorem t_Printer_print {p : Program} {l : Launch} {e : Env} {s : State} {m : MethodId} {args : Array Value} {below : List Frame} {meth : Method} {c : Code} {D : va_G} {ca : Nat → ClassId} {ad : Nat → Nat} {adK adV : Nat → Nat} {S : Nat} {d : Nat} (K : pm_ok p s m args meth c k_Printer_print 3 pmTs R_Printer D vwCl (tyl ca) (shC S) ad (st_E adK adV) none) (pl : Int32 → Int32 → pm_W → Option pm_W) (hq : ∀ (a b : Int32) (w w' : pm_W), pl a b w = some w' → pm_Met l pmTs D vwCl (tyl ca) (shC S) ca ad (st_E adK adV) y_Printer_printList k_Printer_printList 5 none (rmB d) [.ref (ad 8), .int a, .int b] w (none, w')) (w' : pm_W) (x1 : Int32) (x2 : Int32) (w : pm_W) (hf : f_Printer_print  S pl x1 x2 w = some w') : pm_wk p l e (rmA (d + 1)) s m args below meth c D vwCl (shC S) ca ad 3 (none, w') 0 [(0, .ref (ad 8)), (1, .int x1), (2, .int x2)] [] w := by
  unfold f_Printer_print at hf
  refine pm_iload_n K d_Printer_print_0 1 rfl rfl ?_
  obtain ⟨o1, z1, hf⟩ := pm_bind hf
  refine pm_callS (As := [.int x1]) (rest := []) K (c_Value_kind K.2.2.2.2.2.2.2.2.2.2.2.2 o1.1 o1.2 x1 w z1) mi_Value_kind tw_374 tw_589 rfl ⟨rfl, rfl, by show 0 + 1 ≤ (rmA (d + 1)).frames; simp only [rmA, rmB]; omega, by show 8 + (1 + 11) + 0 ≤ (rmA (d + 1)).locals; simp only [rmA, rmB]; omega⟩ rfl (Nat.le_of_ble_eq_true rfl) d_Printer_print_1 ?_
  by_cases c2 : o1.1 = (0 : Int32)
  · have hf := pm_ift c2 hf
    refine pm_tableIn K d_Printer_print_4 (by rw [c2]; decide) (by rw [c2]; decide) (by rw [c2]; rfl) 44 (by decide) ?_
    refine pm_aload_n K d_Printer_print_44 0 rfl rfl ?_
    refine pm_iload_n K d_Printer_print_45 1 rfl rfl ?_
    obtain ⟨o3, z3, hf⟩ := pm_bind hf
    refine pm_callS (As := [.int x1]) (rest := [.ref (ad 8)]) K (c_Value_content K.2.2.2.2.2.2.2.2.2.2.2.2 o3.1 o3.2 x1 o1.2 z3) mi_Value_content tw_377 tw_590 rfl ⟨rfl, rfl, by show 0 + 1 ≤ (rmA (d + 1)).frames; simp only [rmA, rmB]; omega, by show 8 + (1 + 11) + 0 ≤ (rmA (d + 1)).locals; simp only [rmA, rmB]; omega⟩ rfl (Nat.le_of_ble_eq_true rfl) d_Printer_print_46 ?_
    obtain ⟨o4, z4, hf⟩ := pm_bind hf
    refine pm_callV (As := [.int o3.1]) (rest := []) (o := 8) K (c_Printer_printNumber K.2.2.2.2.2.2.2.2.2.2.2.2 o4 o3.1 o3.2 z4) mi_Printer_printNumber rfl rfl tw_592 tw_36 tw_591 rfl ⟨rfl, rfl, by show 1 + 1 ≤ (rmA (d + 1)).frames; simp only [rmA, rmB]; omega, by show 8 + (4 + 11) + 21 ≤ (rmA (d + 1)).locals; simp only [rmA, rmB]; omega⟩ rfl (Nat.le_of_ble_eq_true rfl) d_Printer_print_49 ?_
    refine pm_goto K d_Printer_print_52 112 (by decide) ?_
    cases hf
    exact pm_vret K d_Printer_print_112
  have hf := pm_iff c2 hf
  by_cases c5 : o1.1 = (1 : Int32)
  · have hf := pm_ift c5 hf
    refine pm_tableIn K d_Printer_print_4 (by rw [c5]; decide) (by rw [c5]; decide) (by rw [c5]; rfl) 55 (by decide) ?_
    refine pm_aload_n K d_Printer_print_55 0 rfl rfl ?_
    refine pm_aload_n K d_Printer_print_56 0 rfl rfl ?_
    refine pm_getR K fc_8 (o := 8) rfl 1 rfl (by decide) tw_274 d_Printer_print_57 ?_
    refine pm_iload_n K d_Printer_print_60 1 rfl rfl ?_
    obtain ⟨o6, z6, hf⟩ := pm_bind hf
    refine pm_callS (As := [.int x1]) (rest := [.ref (ad 3), .ref (ad 8)]) K (c_Value_content K.2.2.2.2.2.2.2.2.2.2.2.2 o6.1 o6.2 x1 o1.2 z6) mi_Value_content tw_377 tw_590 rfl ⟨rfl, rfl, by show 0 + 1 ≤ (rmA (d + 1)).frames; simp only [rmA, rmB]; omega, by show 8 + (1 + 11) + 0 ≤ (rmA (d + 1)).locals; simp only [rmA, rmB]; omega⟩ rfl (Nat.le_of_ble_eq_true rfl) d_Printer_print_61 ?_
    obtain ⟨o7, z7, hf⟩ := pm_bind hf
    refine pm_callV (As := [.int o6.1]) (rest := [.ref (ad 8)]) (o := 3) K (c_Symbols_name K.2.2.2.2.2.2.2.2.2.2.2.2 o7.1 o7.2 o6.1 o6.2 z7) mi_Symbols_name rfl rfl tw_603 tw_604 tw_602 rfl ⟨rfl, rfl, by show 0 + 1 ≤ (rmA (d + 1)).frames; simp only [rmA, rmB]; omega, by show 8 + (2 + 11) + 0 ≤ (rmA (d + 1)).locals; simp only [rmA, rmB]; omega⟩ rfl (Nat.le_of_ble_eq_true rfl) d_Printer_print_64 ?_
    obtain ⟨o8, z8, hf⟩ := pm_bind hf
    refine pm_callV (As := [.long o7.1]) (rest := []) (o := 8) K (c_Printer_printName K.2.2.2.2.2.2.2.2.2.2.2.2 o8 o7.1 o7.2 z8) mi_Printer_printName rfl rfl tw_607 tw_37 tw_606 rfl ⟨rfl, rfl, by show 1 + 1 ≤ (rmA (d + 1)).frames; simp only [rmA, rmB]; omega, by show 8 + (5 + 11) + 21 ≤ (rmA (d + 1)).locals; simp only [rmA, rmB]; omega⟩ rfl (Nat.le_of_ble_eq_true rfl) d_Printer_print_67 ?_
    refine pm_goto K d_Printer_print_70 112 (by decide) ?_
    cases hf
    exact pm_vret K d_Printer_print_112
  have hf := pm_iff c5 hf
  by_cases c9 : o1.1 = (2 : Int32)
  · have hf := pm_ift c9 hf
    refine pm_tableIn K d_Printer_print_4 (by rw [c9]; decide) (by rw [c9]; decide) (by rw [c9]; rfl) 106 (by decide) ?_
    refine pm_aload_n K d_Printer_print_106 0 rfl rfl ?_
    refine pm_ldcS K K.2.2.2.2.2.2.2.2.2.2.2.1.2.2.2.2.2.2.2.2 d_Printer_print_107 ?_
    obtain ⟨o10, z10, hf⟩ := pm_bind hf
    refine pm_callV (As := [.ref (adK 5)]) (rest := []) (o := 8) K (c_Printer_printText o10 5 o1.2 z10) mi_Printer_printText rfl rfl tw_611 tw_38 tw_610 rfl ⟨rfl, rfl, by show 4 + 1 ≤ (rmA (d + 1)).frames; simp only [rmA, rmB]; omega, by show 8 + (3 + 11) + 87 ≤ (rmA (d + 1)).locals; simp only [rmA, rmB]; omega⟩ rfl (Nat.le_of_ble_eq_true rfl) d_Printer_print_109 ?_
    cases hf
    exact pm_vret K d_Printer_print_112
  have hf := pm_iff c9 hf
  by_cases c11 : o1.1 = (3 : Int32)
  · have hf := pm_ift c11 hf
    refine pm_tableIn K d_Printer_print_4 (by rw [c11]; decide) (by rw [c11]; decide) (by rw [c11]; rfl) 55 (by decide) ?_
    refine pm_aload_n K d_Printer_print_55 0 rfl rfl ?_
    refine pm_aload_n K d_Printer_print_56 0 rfl rfl ?_
    refine pm_getR K fc_8 (o := 8) rfl 1 rfl (by decide) tw_274 d_Printer_print_57 ?_
    refine pm_iload_n K d_Printer_print_60 1 rfl rfl ?_
    obtain ⟨o12, z12, hf⟩ := pm_bind hf
    refine pm_callS (As := [.int x1]) (rest := [.ref (ad 3), .ref (ad 8)]) K (c_Value_content K.2.2.2.2.2.2.2.2.2.2.2.2 o12.1 o12.2 x1 o1.2 z12) mi_Value_content tw_377 tw_590 rfl ⟨rfl, rfl, by show 0 + 1 ≤ (rmA (d + 1)).frames; simp only [rmA, rmB]; omega, by show 8 + (1 + 11) + 0 ≤ (rmA (d + 1)).locals; simp only [rmA, rmB]; omega⟩ rfl (Nat.le_of_ble_eq_true rfl) d_Printer_print_61 ?_
    obtain ⟨o13, z13, hf⟩ := pm_bind hf
    refine pm_callV (As := [.int o12.1]) (rest := [.ref (ad 8)]) (o := 3) K (c_Symbols_name K.2.2.2.2.2.2.2.2.2.2.2.2 o13.1 o13.2 o12.1 o12.2 z13) mi_Symbols_name rfl rfl tw_603 tw_604 tw_602 rfl ⟨rfl, rfl, by show 0 + 1 ≤ (rmA (d + 1)).frames; simp only [rmA, rmB]; omega, by show 8 + (2 + 11) + 0 ≤ (rmA (d + 1)).locals; simp only [rmA, rmB]; omega⟩ rfl (Nat.le_of_ble_eq_true rfl) d_Printer_print_64 ?_
    obtain ⟨o14, z14, hf⟩ := pm_bind hf
    refine pm_callV (As := [.long o13.1]) (rest := []) (o := 8) K (c_Printer_printName K.2.2.2.2.2.2.2.2.2.2.2.2 o14 o13.1 o13.2 z14) mi_Printer_printName rfl rfl tw_607 tw_37 tw_606 rfl ⟨rfl, rfl, by show 1 + 1 ≤ (rmA (d + 1)).frames; simp only [rmA, rmB]; omega, by show 8 + (5 + 11) + 21 ≤ (rmA (d + 1)).locals; simp only [rmA, rmB]; omega⟩ rfl (Nat.le_of_ble_eq_true rfl) d_Printer_print_67 ?_
    refine pm_goto K d_Printer_print_70 112 (by decide) ?_
    cases hf
    exact pm_vret K d_Printer_print_112
  have hf := pm_iff c11 hf
  by_cases c15 : o1.1 = (4 : Int32)
  · have hf := pm_ift c15 hf
    refine pm_tableIn K d_Printer_print_4 (by rw [c15]; decide) (by rw [c15]; decide) (by rw [c15]; rfl) 73 (by decide) ?_
    refine pm_iload_n K d_Printer_print_73 2 rfl rfl ?_
    refine pm_bipush (v := 16) K d_Printer_print_74 (by decide) ?_
    refine pm_icmp_lt K d_Printer_print_76 88 (by decide) (fun c16 => ?_) (fun c16 => ?_)
    · have hf := pm_ift c16 hf
      refine pm_aload_n K d_Printer_print_88 0 rfl rfl ?_
      refine pm_iload_n K d_Printer_print_89 1 rfl rfl ?_
      refine pm_iload_n K d_Printer_print_90 2 rfl rfl ?_
      obtain ⟨o17, z17, hf⟩ := pm_bind hf
      refine pm_callV (As := [.int x1, .int x2]) (rest := []) (o := 8) K (hq x1 x2 o1.2 o17 z17) mi_Printer_printList rfl rfl tw_616 tw_39 tw_615 rfl rm_print_ok rfl (Nat.le_of_ble_eq_true rfl) d_Printer_print_91 ?_
      refine pm_goto K d_Printer_print_94 112 (by decide) ?_
      cases hf
      exact pm_vret K d_Printer_print_112
    · have hf := pm_iff c16 hf
      refine pm_aload_n K d_Printer_print_79 0 rfl rfl ?_
      refine pm_ldcS K K.2.2.2.2.2.2.2.2.2.2.2.1.2.2.2.2.1 d_Printer_print_80 ?_
      obtain ⟨o18, z18, hf⟩ := pm_bind hf
      refine pm_callV (As := [.ref (adK 1)]) (rest := []) (o := 8) K (c_Printer_printText o18 1 o1.2 z18) mi_Printer_printText rfl rfl tw_611 tw_38 tw_610 rfl ⟨rfl, rfl, by show 4 + 1 ≤ (rmA (d + 1)).frames; simp only [rmA, rmB]; omega, by show 8 + (3 + 11) + 87 ≤ (rmA (d + 1)).locals; simp only [rmA, rmB]; omega⟩ rfl (Nat.le_of_ble_eq_true rfl) d_Printer_print_82 ?_
      refine pm_goto K d_Printer_print_85 112 (by decide) ?_
      cases hf
      exact pm_vret K d_Printer_print_112
  have hf := pm_iff c15 hf
  by_cases c19 : o1.1 = (5 : Int32)
  · have hf := pm_ift c19 hf
    refine pm_tableIn K d_Printer_print_4 (by rw [c19]; decide) (by rw [c19]; decide) (by rw [c19]; rfl) 97 (by decide) ?_
    refine pm_aload_n K d_Printer_print_97 0 rfl rfl ?_
    refine pm_ldcS K K.2.2.2.2.2.2.2.2.2.2.2.1.2.2.2.2.2.2.2.1 d_Printer_print_98 ?_
    obtain ⟨o20, z20, hf⟩ := pm_bind hf
    refine pm_callV (As := [.ref (adK 4)]) (rest := []) (o := 8) K (c_Printer_printText o20 4 o1.2 z20) mi_Printer_printText rfl rfl tw_611 tw_38 tw_610 rfl ⟨rfl, rfl, by show 4 + 1 ≤ (rmA (d + 1)).frames; simp only [rmA, rmB]; omega, by show 8 + (3 + 11) + 87 ≤ (rmA (d + 1)).locals; simp only [rmA, rmB]; omega⟩ rfl (Nat.le_of_ble_eq_true rfl) d_Printer_print_100 ?_
    refine pm_goto K d_Printer_print_103 112 (by decide) ?_
    cases hf
    exact pm_vret K d_Printer_print_112
  have hf := pm_iff c19 hf
  have hne : ¬ o1.1.toInt = 0 ∧ ¬ o1.1.toInt = 1 ∧ ¬ o1.1.toInt = 2 ∧ ¬ o1.1.toInt = 3 ∧ ¬ o1.1.toInt = 4 ∧ ¬ o1.1.toInt = 5 := ⟨lv_neT c2 (by decide), lv_neT c5 (by decide), lv_neT c9 (by decide), lv_neT c11 (by decide), lv_neT c15 (by decide), lv_neT c19 (by decide)⟩
  refine pm_tableOut K d_Printer_print_4 (by omega) 106 (by decide) ?_
  refine pm_aload_n K d_Printer_print_106 0 rfl rfl ?_
  refine pm_ldcS K K.2.2.2.2.2.2.2.2.2.2.2.1.2.2.2.2.2.2.2.2 d_Printer_print_107 ?_
  obtain ⟨o21, z21, hf⟩ := pm_bind hf
  refine pm_callV (As := [.ref (adK 5)]) (rest := []) (o := 8) K (c_Printer_printText o21 5 o1.2 z21) mi_Printer_printText rfl rfl tw_611 tw_38 tw_610 rfl ⟨rfl, rfl, by show 4 + 1 ≤ (rmA (d + 1)).frames; simp only [rmA, rmB]; omega, by show 8 + (3 + 11) + 87 ≤ (rmA (d + 1)).locals; simp only [rmA, rmB]; omega⟩ rfl (Nat.le_of_ble_eq_true rfl) d_Printer_print_109 ?_
  cases hf
  exact pm_vret K d_Printer_print_112
/-- CellLisp$Printer.print(II)V -/
theorem c_Printer_print {l : Launch} {D : va_G} {ca : Nat → ClassId} {ad : Nat → Nat} {adK adV : Nat → Nat} {S : Nat} {d : Nat} (pl : Int32 → Int32 → pm_W → Option pm_W) (hq : ∀ (a b : Int32) (w w' : pm_W), pl a b w = some w' → pm_Met l pmTs D vwCl (tyl ca) (shC S) ca ad (st_E adK adV) y_Printer_printList k_Printer_printList 5 none (rmB d) [.ref (ad 8), .int a, .int b] w (none, w')) (w' : pm_W) (x1 : Int32) (x2 : Int32) (w : pm_W) (hf : f_Printer_print  S pl x1 x2 w = some w') : pm_Met l pmTs D vwCl (tyl ca) (shC S) ca ad (st_E adK adV) y_Printer_print k_Printer_print 3 none (rmA (d + 1)) [.ref (ad 8), .int x1, .int x2] w (none, w') :=
  pm_start pmTs_good (st_cl adK adV) (by decide) (Nat.le_of_ble_eq_true rfl) (fun p e s m below meth c K => t_Printer_print K pl hq w' x1 x2 w hf)

def b_Printer_printList_78 (S : Nat) (pr : Int32 → Int32 → pm_W → Option pm_W) (rec : Nat → Int32 → Int32 → Int32 → pm_W → Option pm_W) (x2 : Int32) (x3 : Int32) (w : pm_W) : Option pm_W :=
  Option.bind (f_Value_isPair S x3 w) fun o15 =>
  if o15.1 = 0 then
    if x3 = (2 : Int32) then
      Option.bind (f_Output_put S (41 : Int32) o15.2) fun o18 =>
      some o18
    else
      Option.bind (f_Printer_printText S 3 o15.2) fun o19 =>
      Option.bind (pr x3 (x2 + (1 : Int32)) o19) fun o20 =>
      Option.bind (f_Output_put S (41 : Int32) o20) fun o21 =>
      some o21
  else
    Option.bind (f_Printer_printText S 2 o15.2) fun o22 =>
    Option.bind (f_Output_put S (41 : Int32) o22) fun o23 =>
    some o23
def b_Printer_printList_5 (S : Nat) (pr : Int32 → Int32 → pm_W → Option pm_W) (rec : Nat → Int32 → Int32 → Int32 → pm_W → Option pm_W) (x2 : Int32) (x3 : Int32) (x4 : Int32) (w : pm_W) : Option pm_W :=
  if (40 : Int32) ≤ x4 then
    b_Printer_printList_78  S pr rec x2 x3 w
  else
    Option.bind (f_Value_isPair S x3 w) fun o2 =>
    if o2.1 = 0 then
      b_Printer_printList_78  S pr rec x2 x3 o2.2
    else
      Option.bind (f_Output_isFull S o2.2) fun o4 =>
      if o4.1 = 0 then
        if x4 = 0 then
          Option.bind (f_Output_put S (40 : Int32) o4.2) fun o11 =>
          Option.bind (f_Room_first S x3 o11) fun o12 =>
          Option.bind (pr o12.1 (x2 + (1 : Int32)) o12.2) fun o13 =>
          Option.bind (f_Room_second S x3 o13) fun o14 =>
          rec 0 x2 o14.1 (x4 + (1 : Int32)) o14.2
        else
          Option.bind (f_Output_put S (32 : Int32) o4.2) fun o7 =>
          Option.bind (f_Room_first S x3 o7) fun o8 =>
          Option.bind (pr o8.1 (x2 + (1 : Int32)) o8.2) fun o9 =>
          Option.bind (f_Room_second S x3 o9) fun o10 =>
          rec 0 x2 o10.1 (x4 + (1 : Int32)) o10.2
      else
        b_Printer_printList_78  S pr rec x2 x3 o4.2
def l_Printer_printList (S : Nat) (pr : Int32 → Int32 → pm_W → Option pm_W) : Nat → Nat → Int32 → Int32 → Int32 → pm_W → Option pm_W := pm_it (fun _ _ _ _ _ => none) (fun rec k x2 x3 x4 w => b_Printer_printList_5  S pr rec x2 x3 x4 w)
def f_Printer_printList (S : Nat) (pr : Int32 → Int32 → pm_W → Option pm_W) (x1 : Int32) (x2 : Int32) (w : pm_W) : Option pm_W :=
  (l_Printer_printList  S pr pm_fuel) 0 x2 x1 (0 : Int32) w
set_option maxHeartbeats 4000000 in
set_option maxRecDepth 100000 in
theorem t_Printer_printList_78 {p : Program} {l : Launch} {e : Env} {s : State} {m : MethodId} {args : Array Value} {below : List Frame} {meth : Method} {c : Code} {D : va_G} {ca : Nat → ClassId} {ad : Nat → Nat} {adK adV : Nat → Nat} {S : Nat} {d : Nat} (K : pm_ok p s m args meth c k_Printer_printList 5 pmTs R_Printer D vwCl (tyl ca) (shC S) ad (st_E adK adV) none) (pr : Int32 → Int32 → pm_W → Option pm_W) (hq : ∀ (a b : Int32) (w w' : pm_W), pr a b w = some w' → pm_Met l pmTs D vwCl (tyl ca) (shC S) ca ad (st_E adK adV) y_Printer_print k_Printer_print 3 none (rmA d) [.ref (ad 8), .int a, .int b] w (none, w')) (rec : Nat → Int32 → Int32 → Int32 → pm_W → Option pm_W) (w' : pm_W) (h5 : ∀ (x2 : Int32) (x3 : Int32) (x4 : Int32) (w : pm_W), rec 0 x2 x3 x4 w = some w' → pm_wk p l e (rmB d) s m args below meth c D vwCl (shC S) ca ad 5 (none, w') 5 [(0, .ref (ad 8)), (2, .int x2), (3, .int x3), (4, .int x4)] [] w) (x2 : Int32) (x3 : Int32) (w : pm_W) (hf : b_Printer_printList_78  S pr rec x2 x3 w = some w') : pm_wk p l e (rmB d) s m args below meth c D vwCl (shC S) ca ad 5 (none, w') 78 [(0, .ref (ad 8)), (2, .int x2), (3, .int x3)] [] w := by
  unfold b_Printer_printList_78 at hf
  refine pm_iload_n K d_Printer_printList_78 2 rfl rfl ?_
  obtain ⟨o15, z15, hf⟩ := pm_bind hf
  refine pm_callS (As := [.int x3]) (rest := []) K (c_Value_isPair K.2.2.2.2.2.2.2.2.2.2.2.2 o15.1 o15.2 x3 w z15) mi_Value_isPair tw_435 tw_618 rfl ⟨rfl, rfl, by show 1 + 1 ≤ (rmB d).frames; simp only [rmA, rmB]; omega, by show 8 + (1 + 11) + 20 ≤ (rmB d).locals; simp only [rmA, rmB]; omega⟩ rfl (Nat.le_of_ble_eq_true rfl) d_Printer_printList_79 ?_
  refine pm_if_eq K d_Printer_printList_82 94 (by decide) (fun c16 => ?_) (fun c16 => ?_)
  · have hf := pm_ift c16 hf
    refine pm_iload_n K d_Printer_printList_94 2 rfl rfl ?_
    refine pm_iconst (v := 2) K d_Printer_printList_95 (by decide) ?_
    refine pm_icmp_eq K d_Printer_printList_96 113 (by decide) (fun c17 => ?_) (fun c17 => ?_)
    · have hf := pm_ift c17 hf
      refine pm_aload_n K d_Printer_printList_113 0 rfl rfl ?_
      refine pm_getR K fc_8 (o := 8) rfl 0 rfl (by decide) tw_273 d_Printer_printList_114 ?_
      refine pm_bipush (v := 41) K d_Printer_printList_117 (by decide) ?_
      obtain ⟨o18, z18, hf⟩ := pm_bind hf
      refine pm_callV (As := [.int (41 : Int32)]) (rest := []) (o := 2) K (c_Output_put K.2.2.2.2.2.2.2.2.2.2.2.2 o18 (41 : Int32) o15.2 z18) mi_Output_put rfl rfl tw_595 tw_596 tw_594 rfl ⟨rfl, rfl, by show 0 + 1 ≤ (rmB d).frames; simp only [rmA, rmB]; omega, by show 8 + (2 + 11) + 0 ≤ (rmB d).locals; simp only [rmA, rmB]; omega⟩ rfl (Nat.le_of_ble_eq_true rfl) d_Printer_printList_119 ?_
      cases hf
      exact pm_vret K d_Printer_printList_122
    · have hf := pm_iff c17 hf
      refine pm_aload_n K d_Printer_printList_99 0 rfl rfl ?_
      refine pm_ldcS K K.2.2.2.2.2.2.2.2.2.2.2.1.2.2.2.2.2.2.1 d_Printer_printList_100 ?_
      obtain ⟨o19, z19, hf⟩ := pm_bind hf
      refine pm_callV (As := [.ref (adK 3)]) (rest := []) (o := 8) K (c_Printer_printText o19 3 o15.2 z19) mi_Printer_printText rfl rfl tw_611 tw_38 tw_610 rfl ⟨rfl, rfl, by show 4 + 1 ≤ (rmB d).frames; simp only [rmA, rmB]; omega, by show 8 + (3 + 11) + 87 ≤ (rmB d).locals; simp only [rmA, rmB]; omega⟩ rfl (Nat.le_of_ble_eq_true rfl) d_Printer_printList_102 ?_
      refine pm_aload_n K d_Printer_printList_105 0 rfl rfl ?_
      refine pm_iload_n K d_Printer_printList_106 2 rfl rfl ?_
      refine pm_iload_n K d_Printer_printList_107 1 rfl rfl ?_
      refine pm_iconst (v := 1) K d_Printer_printList_108 (by decide) ?_
      refine pm_iadd K d_Printer_printList_109 ?_
      obtain ⟨o20, z20, hf⟩ := pm_bind hf
      refine pm_callV (As := [.int x3, .int (x2 + (1 : Int32))]) (rest := []) (o := 8) K (hq x3 (x2 + (1 : Int32)) o19 o20 z20) mi_Printer_print rfl rfl tw_587 tw_35 tw_586 rfl rm_printList_ok rfl (Nat.le_of_ble_eq_true rfl) d_Printer_printList_110 ?_
      refine pm_aload_n K d_Printer_printList_113 0 rfl rfl ?_
      refine pm_getR K fc_8 (o := 8) rfl 0 rfl (by decide) tw_273 d_Printer_printList_114 ?_
      refine pm_bipush (v := 41) K d_Printer_printList_117 (by decide) ?_
      obtain ⟨o21, z21, hf⟩ := pm_bind hf
      refine pm_callV (As := [.int (41 : Int32)]) (rest := []) (o := 2) K (c_Output_put K.2.2.2.2.2.2.2.2.2.2.2.2 o21 (41 : Int32) o20 z21) mi_Output_put rfl rfl tw_595 tw_596 tw_594 rfl ⟨rfl, rfl, by show 0 + 1 ≤ (rmB d).frames; simp only [rmA, rmB]; omega, by show 8 + (2 + 11) + 0 ≤ (rmB d).locals; simp only [rmA, rmB]; omega⟩ rfl (Nat.le_of_ble_eq_true rfl) d_Printer_printList_119 ?_
      cases hf
      exact pm_vret K d_Printer_printList_122
  · have hf := pm_iff c16 hf
    refine pm_aload_n K d_Printer_printList_85 0 rfl rfl ?_
    refine pm_ldcS K K.2.2.2.2.2.2.2.2.2.2.2.1.2.2.2.2.2.1 d_Printer_printList_86 ?_
    obtain ⟨o22, z22, hf⟩ := pm_bind hf
    refine pm_callV (As := [.ref (adK 2)]) (rest := []) (o := 8) K (c_Printer_printText o22 2 o15.2 z22) mi_Printer_printText rfl rfl tw_611 tw_38 tw_610 rfl ⟨rfl, rfl, by show 4 + 1 ≤ (rmB d).frames; simp only [rmA, rmB]; omega, by show 8 + (3 + 11) + 87 ≤ (rmB d).locals; simp only [rmA, rmB]; omega⟩ rfl (Nat.le_of_ble_eq_true rfl) d_Printer_printList_88 ?_
    refine pm_goto K d_Printer_printList_91 113 (by decide) ?_
    refine pm_aload_n K d_Printer_printList_113 0 rfl rfl ?_
    refine pm_getR K fc_8 (o := 8) rfl 0 rfl (by decide) tw_273 d_Printer_printList_114 ?_
    refine pm_bipush (v := 41) K d_Printer_printList_117 (by decide) ?_
    obtain ⟨o23, z23, hf⟩ := pm_bind hf
    refine pm_callV (As := [.int (41 : Int32)]) (rest := []) (o := 2) K (c_Output_put K.2.2.2.2.2.2.2.2.2.2.2.2 o23 (41 : Int32) o22 z23) mi_Output_put rfl rfl tw_595 tw_596 tw_594 rfl ⟨rfl, rfl, by show 0 + 1 ≤ (rmB d).frames; simp only [rmA, rmB]; omega, by show 8 + (2 + 11) + 0 ≤ (rmB d).locals; simp only [rmA, rmB]; omega⟩ rfl (Nat.le_of_ble_eq_true rfl) d_Printer_printList_119 ?_
    cases hf
    exact pm_vret K d_Printer_printList_122
set_option maxHeartbeats 4000000 in
set_option maxRecDepth 100000 in
theorem t_Printer_printList_5 {p : Program} {l : Launch} {e : Env} {s : State} {m : MethodId} {args : Array Value} {below : List Frame} {meth : Method} {c : Code} {D : va_G} {ca : Nat → ClassId} {ad : Nat → Nat} {adK adV : Nat → Nat} {S : Nat} {d : Nat} (K : pm_ok p s m args meth c k_Printer_printList 5 pmTs R_Printer D vwCl (tyl ca) (shC S) ad (st_E adK adV) none) (pr : Int32 → Int32 → pm_W → Option pm_W) (hq : ∀ (a b : Int32) (w w' : pm_W), pr a b w = some w' → pm_Met l pmTs D vwCl (tyl ca) (shC S) ca ad (st_E adK adV) y_Printer_print k_Printer_print 3 none (rmA d) [.ref (ad 8), .int a, .int b] w (none, w')) (rec : Nat → Int32 → Int32 → Int32 → pm_W → Option pm_W) (w' : pm_W) (h5 : ∀ (x2 : Int32) (x3 : Int32) (x4 : Int32) (w : pm_W), rec 0 x2 x3 x4 w = some w' → pm_wk p l e (rmB d) s m args below meth c D vwCl (shC S) ca ad 5 (none, w') 5 [(0, .ref (ad 8)), (2, .int x2), (3, .int x3), (4, .int x4)] [] w) (x2 : Int32) (x3 : Int32) (x4 : Int32) (w : pm_W) (hf : b_Printer_printList_5  S pr rec x2 x3 x4 w = some w') : pm_wk p l e (rmB d) s m args below meth c D vwCl (shC S) ca ad 5 (none, w') 5 [(0, .ref (ad 8)), (2, .int x2), (3, .int x3), (4, .int x4)] [] w := by
  unfold b_Printer_printList_5 at hf
  refine pm_iload K d_Printer_printList_5 3 rfl ?_
  refine pm_bipush (v := 40) K d_Printer_printList_7 (by decide) ?_
  refine pm_icmp_ge K d_Printer_printList_9 78 (by decide) (fun c1 => ?_) (fun c1 => ?_)
  · have hf := pm_ift c1 hf
    refine pm_sub (lv' := [(0, .ref (ad 8)), (2, .int x2), (3, .int x3)]) [0, 1, 2] rfl ?_
    exact t_Printer_printList_78 K pr hq rec w' h5 x2 x3 w hf
  · have hf := pm_iff c1 hf
    refine pm_iload_n K d_Printer_printList_12 2 rfl rfl ?_
    obtain ⟨o2, z2, hf⟩ := pm_bind hf
    refine pm_callS (As := [.int x3]) (rest := []) K (c_Value_isPair K.2.2.2.2.2.2.2.2.2.2.2.2 o2.1 o2.2 x3 w z2) mi_Value_isPair tw_435 tw_618 rfl ⟨rfl, rfl, by show 1 + 1 ≤ (rmB d).frames; simp only [rmA, rmB]; omega, by show 8 + (1 + 11) + 20 ≤ (rmB d).locals; simp only [rmA, rmB]; omega⟩ rfl (Nat.le_of_ble_eq_true rfl) d_Printer_printList_13 ?_
    refine pm_if_eq K d_Printer_printList_16 78 (by decide) (fun c3 => ?_) (fun c3 => ?_)
    · have hf := pm_ift c3 hf
      refine pm_sub (lv' := [(0, .ref (ad 8)), (2, .int x2), (3, .int x3)]) [0, 1, 2] rfl ?_
      exact t_Printer_printList_78 K pr hq rec w' h5 x2 x3 o2.2 hf
    · have hf := pm_iff c3 hf
      refine pm_aload_n K d_Printer_printList_19 0 rfl rfl ?_
      refine pm_getR K fc_8 (o := 8) rfl 0 rfl (by decide) tw_273 d_Printer_printList_20 ?_
      obtain ⟨o4, z4, hf⟩ := pm_bind hf
      refine pm_callV (As := []) (rest := []) (o := 2) K (c_Output_isFull K.2.2.2.2.2.2.2.2.2.2.2.2 o4.1 o4.2 o2.2 z4) mi_Output_isFull rfl rfl tw_620 tw_621 tw_619 rfl ⟨rfl, rfl, by show 0 + 1 ≤ (rmB d).frames; simp only [rmA, rmB]; omega, by show 8 + (1 + 11) + 0 ≤ (rmB d).locals; simp only [rmA, rmB]; omega⟩ rfl (Nat.le_of_ble_eq_true rfl) d_Printer_printList_23 ?_
      refine pm_if_ne K d_Printer_printList_26 78 (by decide) (fun c5 => ?_) (fun c5 => ?_)
      · have hf := pm_iff c5 hf
        refine pm_sub (lv' := [(0, .ref (ad 8)), (2, .int x2), (3, .int x3)]) [0, 1, 2] rfl ?_
        exact t_Printer_printList_78 K pr hq rec w' h5 x2 x3 o4.2 hf
      · have hf := pm_ift c5 hf
        refine pm_aload_n K d_Printer_printList_29 0 rfl rfl ?_
        refine pm_getR K fc_8 (o := 8) rfl 0 rfl (by decide) tw_273 d_Printer_printList_30 ?_
        refine pm_iload K d_Printer_printList_33 3 rfl ?_
        refine pm_if_ne K d_Printer_printList_35 43 (by decide) (fun c6 => ?_) (fun c6 => ?_)
        · have hf := pm_iff c6 hf
          refine pm_bipush (v := 32) K d_Printer_printList_43 (by decide) ?_
          obtain ⟨o7, z7, hf⟩ := pm_bind hf
          refine pm_callV (As := [.int (32 : Int32)]) (rest := []) (o := 2) K (c_Output_put K.2.2.2.2.2.2.2.2.2.2.2.2 o7 (32 : Int32) o4.2 z7) mi_Output_put rfl rfl tw_595 tw_596 tw_594 rfl ⟨rfl, rfl, by show 0 + 1 ≤ (rmB d).frames; simp only [rmA, rmB]; omega, by show 8 + (2 + 11) + 0 ≤ (rmB d).locals; simp only [rmA, rmB]; omega⟩ rfl (Nat.le_of_ble_eq_true rfl) d_Printer_printList_45 ?_
          refine pm_aload_n K d_Printer_printList_48 0 rfl rfl ?_
          refine pm_aload_n K d_Printer_printList_49 0 rfl rfl ?_
          refine pm_getR K fc_8 (o := 8) rfl 2 rfl (by decide) tw_275 d_Printer_printList_50 ?_
          refine pm_iload_n K d_Printer_printList_53 2 rfl rfl ?_
          obtain ⟨o8, z8, hf⟩ := pm_bind hf
          refine pm_callV (As := [.int x3]) (rest := [.ref (ad 8)]) (o := 5) K (c_Room_first K.2.2.2.2.2.2.2.2.2.2.2.2 o8.1 o8.2 x3 o7 z8) mi_Room_first rfl rfl tw_438 tw_439 tw_623 rfl ⟨rfl, rfl, by show 1 + 1 ≤ (rmB d).frames; simp only [rmA, rmB]; omega, by show 8 + (2 + 11) + 23 ≤ (rmB d).locals; simp only [rmA, rmB]; omega⟩ rfl (Nat.le_of_ble_eq_true rfl) d_Printer_printList_54 ?_
          refine pm_iload_n K d_Printer_printList_57 1 rfl rfl ?_
          refine pm_iconst (v := 1) K d_Printer_printList_58 (by decide) ?_
          refine pm_iadd K d_Printer_printList_59 ?_
          obtain ⟨o9, z9, hf⟩ := pm_bind hf
          refine pm_callV (As := [.int o8.1, .int (x2 + (1 : Int32))]) (rest := []) (o := 8) K (hq o8.1 (x2 + (1 : Int32)) o8.2 o9 z9) mi_Printer_print rfl rfl tw_587 tw_35 tw_586 rfl rm_printList_ok rfl (Nat.le_of_ble_eq_true rfl) d_Printer_printList_60 ?_
          refine pm_aload_n K d_Printer_printList_63 0 rfl rfl ?_
          refine pm_getR K fc_8 (o := 8) rfl 2 rfl (by decide) tw_275 d_Printer_printList_64 ?_
          refine pm_iload_n K d_Printer_printList_67 2 rfl rfl ?_
          obtain ⟨o10, z10, hf⟩ := pm_bind hf
          refine pm_callV (As := [.int x3]) (rest := []) (o := 5) K (c_Room_second K.2.2.2.2.2.2.2.2.2.2.2.2 o10.1 o10.2 x3 o9 z10) mi_Room_second rfl rfl tw_442 tw_443 tw_624 rfl ⟨rfl, rfl, by show 1 + 1 ≤ (rmB d).frames; simp only [rmA, rmB]; omega, by show 8 + (2 + 11) + 23 ≤ (rmB d).locals; simp only [rmA, rmB]; omega⟩ rfl (Nat.le_of_ble_eq_true rfl) d_Printer_printList_68 ?_
          refine pm_istore_n (lv' := [(3, .int o10.1), (0, .ref (ad 8)), (2, .int x2), (4, .int x4)]) K d_Printer_printList_71 rfl (by decide) rfl ?_
          refine pm_iinc (v := x4 + (1 : Int32)) (lv' := [(4, .int (x4 + (1 : Int32))), (3, .int o10.1), (0, .ref (ad 8)), (2, .int x2)]) K d_Printer_printList_72 3 rfl rfl (by decide) rfl ?_
          refine pm_goto K d_Printer_printList_75 5 (by decide) ?_
          refine pm_sub (lv' := [(0, .ref (ad 8)), (2, .int x2), (3, .int o10.1), (4, .int (x4 + (1 : Int32)))]) [2, 3, 1, 0] rfl ?_
          exact h5 x2 o10.1 (x4 + (1 : Int32)) o10.2 hf
        · have hf := pm_ift c6 hf
          refine pm_bipush (v := 40) K d_Printer_printList_38 (by decide) ?_
          refine pm_goto K d_Printer_printList_40 45 (by decide) ?_
          obtain ⟨o11, z11, hf⟩ := pm_bind hf
          refine pm_callV (As := [.int (40 : Int32)]) (rest := []) (o := 2) K (c_Output_put K.2.2.2.2.2.2.2.2.2.2.2.2 o11 (40 : Int32) o4.2 z11) mi_Output_put rfl rfl tw_595 tw_596 tw_594 rfl ⟨rfl, rfl, by show 0 + 1 ≤ (rmB d).frames; simp only [rmA, rmB]; omega, by show 8 + (2 + 11) + 0 ≤ (rmB d).locals; simp only [rmA, rmB]; omega⟩ rfl (Nat.le_of_ble_eq_true rfl) d_Printer_printList_45 ?_
          refine pm_aload_n K d_Printer_printList_48 0 rfl rfl ?_
          refine pm_aload_n K d_Printer_printList_49 0 rfl rfl ?_
          refine pm_getR K fc_8 (o := 8) rfl 2 rfl (by decide) tw_275 d_Printer_printList_50 ?_
          refine pm_iload_n K d_Printer_printList_53 2 rfl rfl ?_
          obtain ⟨o12, z12, hf⟩ := pm_bind hf
          refine pm_callV (As := [.int x3]) (rest := [.ref (ad 8)]) (o := 5) K (c_Room_first K.2.2.2.2.2.2.2.2.2.2.2.2 o12.1 o12.2 x3 o11 z12) mi_Room_first rfl rfl tw_438 tw_439 tw_623 rfl ⟨rfl, rfl, by show 1 + 1 ≤ (rmB d).frames; simp only [rmA, rmB]; omega, by show 8 + (2 + 11) + 23 ≤ (rmB d).locals; simp only [rmA, rmB]; omega⟩ rfl (Nat.le_of_ble_eq_true rfl) d_Printer_printList_54 ?_
          refine pm_iload_n K d_Printer_printList_57 1 rfl rfl ?_
          refine pm_iconst (v := 1) K d_Printer_printList_58 (by decide) ?_
          refine pm_iadd K d_Printer_printList_59 ?_
          obtain ⟨o13, z13, hf⟩ := pm_bind hf
          refine pm_callV (As := [.int o12.1, .int (x2 + (1 : Int32))]) (rest := []) (o := 8) K (hq o12.1 (x2 + (1 : Int32)) o12.2 o13 z13) mi_Printer_print rfl rfl tw_587 tw_35 tw_586 rfl rm_printList_ok rfl (Nat.le_of_ble_eq_true rfl) d_Printer_printList_60 ?_
          refine pm_aload_n K d_Printer_printList_63 0 rfl rfl ?_
          refine pm_getR K fc_8 (o := 8) rfl 2 rfl (by decide) tw_275 d_Printer_printList_64 ?_
          refine pm_iload_n K d_Printer_printList_67 2 rfl rfl ?_
          obtain ⟨o14, z14, hf⟩ := pm_bind hf
          refine pm_callV (As := [.int x3]) (rest := []) (o := 5) K (c_Room_second K.2.2.2.2.2.2.2.2.2.2.2.2 o14.1 o14.2 x3 o13 z14) mi_Room_second rfl rfl tw_442 tw_443 tw_624 rfl ⟨rfl, rfl, by show 1 + 1 ≤ (rmB d).frames; simp only [rmA, rmB]; omega, by show 8 + (2 + 11) + 23 ≤ (rmB d).locals; simp only [rmA, rmB]; omega⟩ rfl (Nat.le_of_ble_eq_true rfl) d_Printer_printList_68 ?_
          refine pm_istore_n (lv' := [(3, .int o14.1), (0, .ref (ad 8)), (2, .int x2), (4, .int x4)]) K d_Printer_printList_71 rfl (by decide) rfl ?_
          refine pm_iinc (v := x4 + (1 : Int32)) (lv' := [(4, .int (x4 + (1 : Int32))), (3, .int o14.1), (0, .ref (ad 8)), (2, .int x2)]) K d_Printer_printList_72 3 rfl rfl (by decide) rfl ?_
          refine pm_goto K d_Printer_printList_75 5 (by decide) ?_
          refine pm_sub (lv' := [(0, .ref (ad 8)), (2, .int x2), (3, .int o14.1), (4, .int (x4 + (1 : Int32)))]) [2, 3, 1, 0] rfl ?_
          exact h5 x2 o14.1 (x4 + (1 : Int32)) o14.2 hf
set_option maxHeartbeats 4000000 in
set_option maxRecDepth 100000 in
theorem a_Printer_printList {p : Program} {l : Launch} {e : Env} {s : State} {m : MethodId} {args : Array Value} {below : List Frame} {meth : Method} {c : Code} {D : va_G} {ca : Nat → ClassId} {ad : Nat → Nat} {adK adV : Nat → Nat} {S : Nat} {d : Nat} (K : pm_ok p s m args meth c k_Printer_printList 5 pmTs R_Printer D vwCl (tyl ca) (shC S) ad (st_E adK adV) none) (pr : Int32 → Int32 → pm_W → Option pm_W) (hq : ∀ (a b : Int32) (w w' : pm_W), pr a b w = some w' → pm_Met l pmTs D vwCl (tyl ca) (shC S) ca ad (st_E adK adV) y_Printer_print k_Printer_print 3 none (rmA d) [.ref (ad 8), .int a, .int b] w (none, w')) (w' : pm_W) : ∀ n : Nat, (∀ (x2 : Int32) (x3 : Int32) (x4 : Int32) (w : pm_W), l_Printer_printList  S pr n 0 x2 x3 x4 w = some w' → pm_wk p l e (rmB d) s m args below meth c D vwCl (shC S) ca ad 5 (none, w') 5 [(0, .ref (ad 8)), (2, .int x2), (3, .int x3), (4, .int x4)] [] w) := by
  intro n
  induction n with
  | zero => exact fun _ _ _ _ hf => (by cases hf)
  | succ n ih => exact fun x2 x3 x4 w hf => t_Printer_printList_5 K pr hq (l_Printer_printList S pr n) w' (ih) x2 x3 x4 w hf
set_option maxHeartbeats 4000000 in
set_option maxRecDepth 100000 in
theorem t_Printer_printList {p : Program} {l : Launch} {e : Env} {s : State} {m : MethodId} {args : Array Value} {below : List Frame} {meth : Method} {c : Code} {D : va_G} {ca : Nat → ClassId} {ad : Nat → Nat} {adK adV : Nat → Nat} {S : Nat} {d : Nat} (K : pm_ok p s m args meth c k_Printer_printList 5 pmTs R_Printer D vwCl (tyl ca) (shC S) ad (st_E adK adV) none) (pr : Int32 → Int32 → pm_W → Option pm_W) (hq : ∀ (a b : Int32) (w w' : pm_W), pr a b w = some w' → pm_Met l pmTs D vwCl (tyl ca) (shC S) ca ad (st_E adK adV) y_Printer_print k_Printer_print 3 none (rmA d) [.ref (ad 8), .int a, .int b] w (none, w')) (w' : pm_W) (x1 : Int32) (x2 : Int32) (w : pm_W) (hf : f_Printer_printList  S pr x1 x2 w = some w') : pm_wk p l e (rmB d) s m args below meth c D vwCl (shC S) ca ad 5 (none, w') 0 [(0, .ref (ad 8)), (1, .int x1), (2, .int x2)] [] w := by
  unfold f_Printer_printList at hf
  have h5 := (a_Printer_printList (l := l) (e := e) (below := below) K pr hq w' pm_fuel)
  refine pm_iload_n K d_Printer_printList_0 1 rfl rfl ?_
  refine pm_istore_n (lv' := [(3, .int x1), (0, .ref (ad 8)), (1, .int x1), (2, .int x2)]) K d_Printer_printList_1 rfl (by decide) rfl ?_
  refine pm_iconst (v := 0) K d_Printer_printList_2 (by decide) ?_
  refine pm_istore (lv' := [(4, .int (0 : Int32)), (3, .int x1), (0, .ref (ad 8)), (1, .int x1), (2, .int x2)]) K d_Printer_printList_3 (by decide) rfl ?_
  refine pm_sub (lv' := [(0, .ref (ad 8)), (2, .int x2), (3, .int x1), (4, .int (0 : Int32))]) [2, 4, 1, 0] rfl ?_
  exact h5 x2 x1 (0 : Int32) w hf
/-- CellLisp$Printer.printList(II)V -/
theorem c_Printer_printList {l : Launch} {D : va_G} {ca : Nat → ClassId} {ad : Nat → Nat} {adK adV : Nat → Nat} {S : Nat} {d : Nat} (pr : Int32 → Int32 → pm_W → Option pm_W) (hq : ∀ (a b : Int32) (w w' : pm_W), pr a b w = some w' → pm_Met l pmTs D vwCl (tyl ca) (shC S) ca ad (st_E adK adV) y_Printer_print k_Printer_print 3 none (rmA d) [.ref (ad 8), .int a, .int b] w (none, w')) (w' : pm_W) (x1 : Int32) (x2 : Int32) (w : pm_W) (hf : f_Printer_printList  S pr x1 x2 w = some w') : pm_Met l pmTs D vwCl (tyl ca) (shC S) ca ad (st_E adK adV) y_Printer_printList k_Printer_printList 5 none (rmB d) [.ref (ad 8), .int x1, .int x2] w (none, w') :=
  pm_start pmTs_good (st_cl adK adV) (by decide) (Nat.le_of_ble_eq_true rfl) (fun p e s m below meth c K => t_Printer_printList K pr hq w' x1 x2 w hf)

/-- print, as deep as d -/
def f_Pr (S : Nat) : Nat → Int32 → Int32 → pm_W → Option pm_W := pm_it (fun _ _ _ => none) (fun pr => f_Printer_print S (f_Printer_printList S pr))
theorem c_Pr {l : Launch} {D : va_G} {ca : Nat → ClassId} {ad : Nat → Nat} {adK adV : Nat → Nat} {S : Nat} : ∀ (d : Nat) (x1 x2 : Int32) (w w' : pm_W), f_Pr S d x1 x2 w = some w' → pm_Met l pmTs D vwCl (tyl ca) (shC S) ca ad (st_E adK adV) y_Printer_print k_Printer_print 3 none (rmA d) [.ref (ad 8), .int x1, .int x2] w (none, w') := by
  intro d
  induction d with
  | zero =>
    intro x1 x2 w w' hf
    cases hf
  | succ d ih =>
    intro x1 x2 w w' hf
    exact c_Printer_print (d := d) (f_Printer_printList S (f_Pr S d)) (fun a b w w' h => c_Printer_printList (d := d) (f_Pr S d) (fun a b w w' h => ih a b w w' h) w' a b w h) w' x1 x2 w hf
def f_Printer_printLine (S : Nat) (x1 : Int32) (w : pm_W) : Option pm_W :=
  Option.bind (f_Pr S 18 x1 (0 : Int32) w) fun o1 =>
  Option.bind (f_Output_put S (10 : Int32) o1) fun o2 =>
  some o2
set_option maxHeartbeats 4000000 in
set_option maxRecDepth 100000 in
theorem t_Printer_printLine {p : Program} {l : Launch} {e : Env} {s : State} {m : MethodId} {args : Array Value} {below : List Frame} {meth : Method} {c : Code} {D : va_G} {ca : Nat → ClassId} {ad : Nat → Nat} {adK adV : Nat → Nat} {S : Nat} (K : pm_ok p s m args meth c k_Printer_printLine 2 pmTs R_Printer D vwCl (tyl ca) (shC S) ad (st_E adK adV) none) (w' : pm_W) (x1 : Int32) (w : pm_W) (hf : f_Printer_printLine  S x1 w = some w') : pm_wk p l e { frames := 43, cells := 0, slots := 0, locals := 1222 } s m args below meth c D vwCl (shC S) ca ad 2 (none, w') 0 [(0, .ref (ad 8)), (1, .int x1)] [] w := by
  unfold f_Printer_printLine at hf
  refine pm_aload_n K d_Printer_printLine_0 0 rfl rfl ?_
  refine pm_iload_n K d_Printer_printLine_1 1 rfl rfl ?_
  refine pm_iconst (v := 0) K d_Printer_printLine_2 (by decide) ?_
  obtain ⟨o1, z1, hf⟩ := pm_bind hf
  refine pm_callV (As := [.int x1, .int (0 : Int32)]) (rest := []) (o := 8) K (c_Pr 18 x1 (0 : Int32) w o1 z1) mi_Printer_print rfl rfl tw_587 tw_35 tw_586 rfl ⟨rfl, rfl, Nat.le_of_ble_eq_true rfl, Nat.le_of_ble_eq_true rfl⟩ rfl (Nat.le_of_ble_eq_true rfl) d_Printer_printLine_3 ?_
  refine pm_aload_n K d_Printer_printLine_6 0 rfl rfl ?_
  refine pm_getR K fc_8 (o := 8) rfl 0 rfl (by decide) tw_273 d_Printer_printLine_7 ?_
  refine pm_bipush (v := 10) K d_Printer_printLine_10 (by decide) ?_
  obtain ⟨o2, z2, hf⟩ := pm_bind hf
  refine pm_callV (As := [.int (10 : Int32)]) (rest := []) (o := 2) K (c_Output_put K.2.2.2.2.2.2.2.2.2.2.2.2 o2 (10 : Int32) o1 z2) mi_Output_put rfl rfl tw_595 tw_596 tw_594 rfl ⟨rfl, rfl, Nat.le_of_ble_eq_true rfl, Nat.le_of_ble_eq_true rfl⟩ rfl (Nat.le_of_ble_eq_true rfl) d_Printer_printLine_12 ?_
  cases hf
  exact pm_vret K d_Printer_printLine_15
/-- CellLisp$Printer.printLine(I)V -/
theorem c_Printer_printLine {l : Launch} {D : va_G} {ca : Nat → ClassId} {ad : Nat → Nat} {adK adV : Nat → Nat} {S : Nat} (w' : pm_W) (x1 : Int32) (w : pm_W) (hf : f_Printer_printLine  S x1 w = some w') : pm_Met l pmTs D vwCl (tyl ca) (shC S) ca ad (st_E adK adV) y_Printer_printLine k_Printer_printLine 2 none { frames := 43, cells := 0, slots := 0, locals := 1222 } [.ref (ad 8), .int x1] w (none, w') :=
  pm_start pmTs_good (st_cl adK adV) (by decide) (Nat.le_of_ble_eq_true rfl) (fun p e s m below meth c K => t_Printer_printLine K w' x1 w hf)

def f_Machine_giveBack (S : Nat) (w : pm_W) : Option (Int32 × pm_W) :=
  Option.bind (f_State_kind S w) fun o1 =>
  if o1.1 = (1 : Int32) then
    Option.bind (f_Machine_choose S o1.2) fun o3 =>
    some (o3.1, o3.2)
  else
    if o1.1 = (2 : Int32) then
      Option.bind (f_Machine_define S o1.2) fun o5 =>
      some (o5.1, o5.2)
    else
      if o1.1 = (3 : Int32) then
        Option.bind (f_Machine_assign S o1.2) fun o7 =>
        some (o7.1, o7.2)
      else
        if o1.1 = (4 : Int32) then
          Option.bind (f_Machine_keepValue S o1.2) fun o9 =>
          if o9.1 = 0 then
            some ((-7 : Int32), o9.2)
          else
            Option.bind (f_State_a S o9.2) fun o11 =>
            Option.bind (f_Value_isPair S o11.1 o11.2) fun o12 =>
            if o12.1 = 0 then
              Option.bind (f_Machine_apply S o12.2) fun o14 =>
              some (o14.1, o14.2)
            else
              Option.bind (f_Machine_nextArgument S o12.2) fun o15 =>
              some (o15.1, o15.2)
        else
          Option.bind (f_Printer_printLine S (o1.2.1 4 0) o1.2) fun o16 =>
          some ((0 : Int32), o16)
set_option maxHeartbeats 4000000 in
set_option maxRecDepth 100000 in
theorem t_Machine_giveBack {p : Program} {l : Launch} {e : Env} {s : State} {m : MethodId} {args : Array Value} {below : List Frame} {meth : Method} {c : Code} {D : va_G} {ca : Nat → ClassId} {ad : Nat → Nat} {adK adV : Nat → Nat} {S : Nat} (K : pm_ok p s m args meth c k_Machine_giveBack 1 pmTs R_Machine D vwCl (tyl ca) (shC S) ad (st_E adK adV) (some .int)) (r : Int32) (w' : pm_W) (w : pm_W) (hf : f_Machine_giveBack  S w = some (r, w')) : pm_wk p l e { frames := 44, cells := 0, slots := 0, locals := 1243 } s m args below meth c D vwCl (shC S) ca ad 1 (some (.int r), w') 0 [(0, .ref (ad 6))] [] w := by
  unfold f_Machine_giveBack at hf
  refine pm_aload_n K d_Machine_giveBack_0 0 rfl rfl ?_
  refine pm_getR K fc_6 (o := 6) rfl 0 rfl (by decide) tw_280 d_Machine_giveBack_1 ?_
  obtain ⟨o1, z1, hf⟩ := pm_bind hf
  refine pm_callV (As := []) (rest := []) (o := 4) K (c_State_kind K.2.2.2.2.2.2.2.2.2.2.2.2 o1.1 o1.2 w z1) mi_State_kind rfl rfl tw_498 tw_499 tw_497 rfl ⟨rfl, rfl, Nat.le_of_ble_eq_true rfl, Nat.le_of_ble_eq_true rfl⟩ rfl (Nat.le_of_ble_eq_true rfl) d_Machine_giveBack_4 ?_
  by_cases c2 : o1.1 = (1 : Int32)
  · have hf := pm_ift c2 hf
    refine pm_tableIn K d_Machine_giveBack_7 (by rw [c2]; decide) (by rw [c2]; decide) (by rw [c2]; rfl) 36 (by decide) ?_
    refine pm_aload_n K d_Machine_giveBack_36 0 rfl rfl ?_
    obtain ⟨o3, z3, hf⟩ := pm_bind hf
    refine pm_callV (As := []) (rest := []) (o := 6) K (c_Machine_choose K.2.2.2.2.2.2.2.2.2.2.2.2 o3.1 o3.2 o1.2 z3) mi_Machine_choose rfl rfl tw_505 tw_24 tw_504 rfl ⟨rfl, rfl, Nat.le_of_ble_eq_true rfl, Nat.le_of_ble_eq_true rfl⟩ rfl (Nat.le_of_ble_eq_true rfl) d_Machine_giveBack_37 ?_
    cases hf
    exact pm_iret K d_Machine_giveBack_40
  have hf := pm_iff c2 hf
  by_cases c4 : o1.1 = (2 : Int32)
  · have hf := pm_ift c4 hf
    refine pm_tableIn K d_Machine_giveBack_7 (by rw [c4]; decide) (by rw [c4]; decide) (by rw [c4]; rfl) 41 (by decide) ?_
    refine pm_aload_n K d_Machine_giveBack_41 0 rfl rfl ?_
    obtain ⟨o5, z5, hf⟩ := pm_bind hf
    refine pm_callV (As := []) (rest := []) (o := 6) K (c_Machine_define K.2.2.2.2.2.2.2.2.2.2.2.2 o5.1 o5.2 o1.2 z5) mi_Machine_define rfl rfl tw_520 tw_25 tw_519 rfl ⟨rfl, rfl, Nat.le_of_ble_eq_true rfl, Nat.le_of_ble_eq_true rfl⟩ rfl (Nat.le_of_ble_eq_true rfl) d_Machine_giveBack_42 ?_
    cases hf
    exact pm_iret K d_Machine_giveBack_45
  have hf := pm_iff c4 hf
  by_cases c6 : o1.1 = (3 : Int32)
  · have hf := pm_ift c6 hf
    refine pm_tableIn K d_Machine_giveBack_7 (by rw [c6]; decide) (by rw [c6]; decide) (by rw [c6]; rfl) 46 (by decide) ?_
    refine pm_aload_n K d_Machine_giveBack_46 0 rfl rfl ?_
    obtain ⟨o7, z7, hf⟩ := pm_bind hf
    refine pm_callV (As := []) (rest := []) (o := 6) K (c_Machine_assign K.2.2.2.2.2.2.2.2.2.2.2.2 o7.1 o7.2 o1.2 z7) mi_Machine_assign rfl rfl tw_527 tw_26 tw_526 rfl ⟨rfl, rfl, Nat.le_of_ble_eq_true rfl, Nat.le_of_ble_eq_true rfl⟩ rfl (Nat.le_of_ble_eq_true rfl) d_Machine_giveBack_47 ?_
    cases hf
    exact pm_iret K d_Machine_giveBack_50
  have hf := pm_iff c6 hf
  by_cases c8 : o1.1 = (4 : Int32)
  · have hf := pm_ift c8 hf
    refine pm_tableIn K d_Machine_giveBack_7 (by rw [c8]; decide) (by rw [c8]; decide) (by rw [c8]; rfl) 51 (by decide) ?_
    refine pm_aload_n K d_Machine_giveBack_51 0 rfl rfl ?_
    obtain ⟨o9, z9, hf⟩ := pm_bind hf
    refine pm_callV (As := []) (rest := []) (o := 6) K (c_Machine_keepValue K.2.2.2.2.2.2.2.2.2.2.2.2 o9.1 o9.2 o1.2 z9) mi_Machine_keepValue rfl rfl tw_531 tw_27 tw_530 rfl ⟨rfl, rfl, Nat.le_of_ble_eq_true rfl, Nat.le_of_ble_eq_true rfl⟩ rfl (Nat.le_of_ble_eq_true rfl) d_Machine_giveBack_52 ?_
    refine pm_if_ne K d_Machine_giveBack_55 61 (by decide) (fun c10 => ?_) (fun c10 => ?_)
    · have hf := pm_iff c10 hf
      refine pm_aload_n K d_Machine_giveBack_61 0 rfl rfl ?_
      refine pm_getR K fc_6 (o := 6) rfl 0 rfl (by decide) tw_280 d_Machine_giveBack_62 ?_
      obtain ⟨o11, z11, hf⟩ := pm_bind hf
      refine pm_callV (As := []) (rest := []) (o := 4) K (c_State_a K.2.2.2.2.2.2.2.2.2.2.2.2 o11.1 o11.2 o9.2 z11) mi_State_a rfl rfl tw_508 tw_509 tw_507 rfl ⟨rfl, rfl, Nat.le_of_ble_eq_true rfl, Nat.le_of_ble_eq_true rfl⟩ rfl (Nat.le_of_ble_eq_true rfl) d_Machine_giveBack_65 ?_
      obtain ⟨o12, z12, hf⟩ := pm_bind hf
      refine pm_callS (As := [.int o11.1]) (rest := []) K (c_Value_isPair K.2.2.2.2.2.2.2.2.2.2.2.2 o12.1 o12.2 o11.1 o11.2 z12) mi_Value_isPair tw_435 tw_454 rfl ⟨rfl, rfl, Nat.le_of_ble_eq_true rfl, Nat.le_of_ble_eq_true rfl⟩ rfl (Nat.le_of_ble_eq_true rfl) d_Machine_giveBack_68 ?_
      refine pm_if_eq K d_Machine_giveBack_71 81 (by decide) (fun c13 => ?_) (fun c13 => ?_)
      · have hf := pm_ift c13 hf
        refine pm_aload_n K d_Machine_giveBack_81 0 rfl rfl ?_
        obtain ⟨o14, z14, hf⟩ := pm_bind hf
        refine pm_callV (As := []) (rest := []) (o := 6) K (c_Machine_apply K.2.2.2.2.2.2.2.2.2.2.2.2 o14.1 o14.2 o12.2 z14) mi_Machine_apply rfl rfl tw_550 tw_29 tw_549 rfl ⟨rfl, rfl, Nat.le_of_ble_eq_true rfl, Nat.le_of_ble_eq_true rfl⟩ rfl (Nat.le_of_ble_eq_true rfl) d_Machine_giveBack_82 ?_
        cases hf
        exact pm_iret K d_Machine_giveBack_85
      · have hf := pm_iff c13 hf
        refine pm_aload_n K d_Machine_giveBack_74 0 rfl rfl ?_
        obtain ⟨o15, z15, hf⟩ := pm_bind hf
        refine pm_callV (As := []) (rest := []) (o := 6) K (c_Machine_nextArgument K.2.2.2.2.2.2.2.2.2.2.2.2 o15.1 o15.2 o12.2 z15) mi_Machine_nextArgument rfl rfl tw_543 tw_28 tw_542 rfl ⟨rfl, rfl, Nat.le_of_ble_eq_true rfl, Nat.le_of_ble_eq_true rfl⟩ rfl (Nat.le_of_ble_eq_true rfl) d_Machine_giveBack_75 ?_
        refine pm_goto K d_Machine_giveBack_78 85 (by decide) ?_
        cases hf
        exact pm_iret K d_Machine_giveBack_85
    · have hf := pm_ift c10 hf
      refine pm_bipush (v := -7) K d_Machine_giveBack_58 (by decide) ?_
      cases hf
      exact pm_iret K d_Machine_giveBack_60
  have hf := pm_iff c8 hf
  have hne : ¬ o1.1.toInt = 1 ∧ ¬ o1.1.toInt = 2 ∧ ¬ o1.1.toInt = 3 ∧ ¬ o1.1.toInt = 4 := ⟨lv_neT c2 (by decide), lv_neT c4 (by decide), lv_neT c6 (by decide), lv_neT c8 (by decide)⟩
  refine pm_tableOut K d_Machine_giveBack_7 (by omega) 86 (by decide) ?_
  refine pm_aload_n K d_Machine_giveBack_86 0 rfl rfl ?_
  refine pm_getR K fc_6 (o := 6) rfl 4 rfl (by decide) tw_284 d_Machine_giveBack_87 ?_
  refine pm_aload_n K d_Machine_giveBack_90 0 rfl rfl ?_
  refine pm_getR K fc_6 (o := 6) rfl 0 rfl (by decide) tw_280 d_Machine_giveBack_91 ?_
  refine pm_getIN K fc_4 (o := 4) rfl 0 rfl (by decide) tw_205 d_Machine_giveBack_94 (v := o1.2.1 4 0) rfl ?_
  obtain ⟨o16, z16, hf⟩ := pm_bind hf
  refine pm_callV (As := [.int (o1.2.1 4 0)]) (rest := []) (o := 8) K (c_Printer_printLine o16 (o1.2.1 4 0) o1.2 z16) mi_Printer_printLine rfl rfl tw_583 tw_584 tw_582 rfl ⟨rfl, rfl, Nat.le_of_ble_eq_true rfl, Nat.le_of_ble_eq_true rfl⟩ rfl (Nat.le_of_ble_eq_true rfl) d_Machine_giveBack_97 ?_
  refine pm_iconst (v := 0) K d_Machine_giveBack_100 (by decide) ?_
  cases hf
  exact pm_iret K d_Machine_giveBack_101
/-- CellLisp$Machine.giveBack()I -/
theorem c_Machine_giveBack {l : Launch} {D : va_G} {ca : Nat → ClassId} {ad : Nat → Nat} {adK adV : Nat → Nat} {S : Nat} (r : Int32) (w' : pm_W) (w : pm_W) (hf : f_Machine_giveBack  S w = some (r, w')) : pm_Met l pmTs D vwCl (tyl ca) (shC S) ca ad (st_E adK adV) y_Machine_giveBack k_Machine_giveBack 1 (some .int) { frames := 44, cells := 0, slots := 0, locals := 1243 } [.ref (ad 6)] w (some (.int r), w') :=
  pm_start pmTs_good (st_cl adK adV) (by decide) (Nat.le_of_ble_eq_true rfl) (fun p e s m below meth c K => t_Machine_giveBack K r w'  w hf)

def f_Machine_step (S : Nat) (w : pm_W) : Option (Int32 × pm_W) :=
  if (w.1 6 5) = 0 then
    Option.bind (f_Machine_begin S w) fun o9 =>
    some (o9.1, o9.2)
  else
    if (w.1 4 2) = 0 then
      Option.bind (f_Machine_giveBack S (pm_setI w 6 6 ((w.1 6 6) + (1 : Int32)))) fun o3 =>
      if o3.1 = (1 : Int32) then
        some (o3.1, o3.2)
      else
        Option.bind (f_Machine_endForm S o3.2) fun o5 =>
        some (o3.1, o5)
    else
      Option.bind (f_Machine_evaluate S (pm_setI w 6 6 ((w.1 6 6) + (1 : Int32)))) fun o6 =>
      if o6.1 = (1 : Int32) then
        some (o6.1, o6.2)
      else
        Option.bind (f_Machine_endForm S o6.2) fun o8 =>
        some (o6.1, o8)
set_option maxHeartbeats 4000000 in
set_option maxRecDepth 100000 in
theorem t_Machine_step {p : Program} {l : Launch} {e : Env} {s : State} {m : MethodId} {args : Array Value} {below : List Frame} {meth : Method} {c : Code} {D : va_G} {ca : Nat → ClassId} {ad : Nat → Nat} {adK adV : Nat → Nat} {S : Nat} (K : pm_ok p s m args meth c k_Machine_step 2 pmTs R_Machine D vwCl (tyl ca) (shC S) ad (st_E adK adV) (some .int)) (r : Int32) (w' : pm_W) (w : pm_W) (hf : f_Machine_step  S w = some (r, w')) : pm_wk p l e { frames := 45, cells := 0, slots := 0, locals := 1263 } s m args below meth c D vwCl (shC S) ca ad 2 (some (.int r), w') 0 [(0, .ref (ad 6))] [] w := by
  unfold f_Machine_step at hf
  refine pm_aload_n K d_Machine_step_0 0 rfl rfl ?_
  refine pm_getI K fc_6 (o := 6) rfl 5 rfl (by decide) tw_285 d_Machine_step_1 (v := w.1 6 5) rfl ?_
  refine pm_if_ne K d_Machine_step_4 12 (by decide) (fun c1 => ?_) (fun c1 => ?_)
  · have hf := pm_iff c1 hf
    refine pm_aload_n K d_Machine_step_12 0 rfl rfl ?_
    refine pm_dup K d_Machine_step_13 rfl ?_
    refine pm_getI K fc_6 (o := 6) rfl 6 rfl (by decide) tw_286 d_Machine_step_14 (v := w.1 6 6) rfl ?_
    refine pm_iconst (v := 1) K d_Machine_step_17 (by decide) ?_
    refine pm_iadd K d_Machine_step_18 ?_
    refine pm_putI K fc_6 (o := 6) (ty := .int) rfl 6 rfl (by decide) tw_286 rfl rfl rfl rfl d_Machine_step_19 ?_
    refine pm_aload_n K d_Machine_step_22 0 rfl rfl ?_
    refine pm_getR K fc_6 (o := 6) rfl 0 rfl (by decide) tw_280 d_Machine_step_23 ?_
    refine pm_getIN K fc_4 (o := 4) rfl 2 rfl (by decide) tw_210 d_Machine_step_26 (v := w.1 4 2) rfl ?_
    refine pm_if_eq K d_Machine_step_29 39 (by decide) (fun c2 => ?_) (fun c2 => ?_)
    · have hf := pm_ift c2 hf
      refine pm_aload_n K d_Machine_step_39 0 rfl rfl ?_
      obtain ⟨o3, z3, hf⟩ := pm_bind hf
      refine pm_callV (As := []) (rest := []) (o := 6) K (c_Machine_giveBack o3.1 o3.2 (pm_setI w 6 6 ((w.1 6 6) + (1 : Int32))) z3) mi_Machine_giveBack rfl rfl tw_495 tw_22 tw_494 rfl ⟨rfl, rfl, Nat.le_of_ble_eq_true rfl, Nat.le_of_ble_eq_true rfl⟩ rfl (Nat.le_of_ble_eq_true rfl) d_Machine_step_40 ?_
      refine pm_istore_n (lv' := [(1, .int o3.1), (0, .ref (ad 6))]) K d_Machine_step_43 rfl (by decide) rfl ?_
      refine pm_iload_n K d_Machine_step_44 0 rfl rfl ?_
      refine pm_iconst (v := 1) K d_Machine_step_45 (by decide) ?_
      refine pm_icmp_eq K d_Machine_step_46 53 (by decide) (fun c4 => ?_) (fun c4 => ?_)
      · have hf := pm_ift c4 hf
        refine pm_iload_n K d_Machine_step_53 0 rfl rfl ?_
        cases hf
        exact pm_iret K d_Machine_step_54
      · have hf := pm_iff c4 hf
        refine pm_aload_n K d_Machine_step_49 1 rfl rfl ?_
        obtain ⟨o5, z5, hf⟩ := pm_bind hf
        refine pm_callV (As := []) (rest := []) (o := 6) K (c_Machine_endForm K.2.2.2.2.2.2.2.2.2.2.2.2 o5 o3.2 z5) mi_Machine_endForm rfl rfl tw_626 tw_40 tw_625 rfl ⟨rfl, rfl, Nat.le_of_ble_eq_true rfl, Nat.le_of_ble_eq_true rfl⟩ rfl (Nat.le_of_ble_eq_true rfl) d_Machine_step_50 ?_
        refine pm_iload_n K d_Machine_step_53 0 rfl rfl ?_
        cases hf
        exact pm_iret K d_Machine_step_54
    · have hf := pm_iff c2 hf
      refine pm_aload_n K d_Machine_step_32 0 rfl rfl ?_
      obtain ⟨o6, z6, hf⟩ := pm_bind hf
      refine pm_callV (As := []) (rest := []) (o := 6) K (c_Machine_evaluate K.2.2.2.2.2.2.2.2.2.2.2.2 o6.1 o6.2 (pm_setI w 6 6 ((w.1 6 6) + (1 : Int32))) z6) mi_Machine_evaluate rfl rfl tw_421 tw_12 tw_420 rfl ⟨rfl, rfl, Nat.le_of_ble_eq_true rfl, Nat.le_of_ble_eq_true rfl⟩ rfl (Nat.le_of_ble_eq_true rfl) d_Machine_step_33 ?_
      refine pm_goto K d_Machine_step_36 43 (by decide) ?_
      refine pm_istore_n (lv' := [(1, .int o6.1), (0, .ref (ad 6))]) K d_Machine_step_43 rfl (by decide) rfl ?_
      refine pm_iload_n K d_Machine_step_44 0 rfl rfl ?_
      refine pm_iconst (v := 1) K d_Machine_step_45 (by decide) ?_
      refine pm_icmp_eq K d_Machine_step_46 53 (by decide) (fun c7 => ?_) (fun c7 => ?_)
      · have hf := pm_ift c7 hf
        refine pm_iload_n K d_Machine_step_53 0 rfl rfl ?_
        cases hf
        exact pm_iret K d_Machine_step_54
      · have hf := pm_iff c7 hf
        refine pm_aload_n K d_Machine_step_49 1 rfl rfl ?_
        obtain ⟨o8, z8, hf⟩ := pm_bind hf
        refine pm_callV (As := []) (rest := []) (o := 6) K (c_Machine_endForm K.2.2.2.2.2.2.2.2.2.2.2.2 o8 o6.2 z8) mi_Machine_endForm rfl rfl tw_626 tw_40 tw_625 rfl ⟨rfl, rfl, Nat.le_of_ble_eq_true rfl, Nat.le_of_ble_eq_true rfl⟩ rfl (Nat.le_of_ble_eq_true rfl) d_Machine_step_50 ?_
        refine pm_iload_n K d_Machine_step_53 0 rfl rfl ?_
        cases hf
        exact pm_iret K d_Machine_step_54
  · have hf := pm_ift c1 hf
    refine pm_aload_n K d_Machine_step_7 0 rfl rfl ?_
    obtain ⟨o9, z9, hf⟩ := pm_bind hf
    refine pm_callV (As := []) (rest := []) (o := 6) K (c_Machine_begin K.2.2.2.2.2.2.2.2.2.2.2.2 o9.1 o9.2 w z9) mi_Machine_begin rfl rfl tw_314 tw_0 tw_313 rfl ⟨rfl, rfl, Nat.le_of_ble_eq_true rfl, Nat.le_of_ble_eq_true rfl⟩ rfl (Nat.le_of_ble_eq_true rfl) d_Machine_step_8 ?_
    cases hf
    exact pm_iret K d_Machine_step_11
/-- CellLisp$Machine.step()I -/
theorem c_Machine_step {l : Launch} {D : va_G} {ca : Nat → ClassId} {ad : Nat → Nat} {adK adV : Nat → Nat} {S : Nat} (r : Int32) (w' : pm_W) (w : pm_W) (hf : f_Machine_step  S w = some (r, w')) : pm_Met l pmTs D vwCl (tyl ca) (shC S) ca ad (st_E adK adV) y_Machine_step k_Machine_step 2 (some .int) { frames := 45, cells := 0, slots := 0, locals := 1263 } [.ref (ad 6)] w (some (.int r), w') :=
  pm_start pmTs_good (st_cl adK adV) (by decide) (Nat.le_of_ble_eq_true rfl) (fun p e s m below meth c K => t_Machine_step K r w'  w hf)

def b_CL_run_17 (S : Nat) (rec : Nat → Int32 → Int32 → Int32 → pm_W → Option (Int32 × pm_W)) (x2 : Int32) (x3 : Int32) (x4 : Int32) (w : pm_W) : Option (Int32 × pm_W) :=
  if x2 ≤ x4 then
    some (x3, w)
  else
    if x3 = (1 : Int32) then
      Option.bind (f_Machine_step S w) fun o3 =>
      rec 0 x2 o3.1 (x4 + (1 : Int32)) o3.2
    else
      some (x3, w)
def l_CL_run (S : Nat) : Nat → Nat → Int32 → Int32 → Int32 → pm_W → Option (Int32 × pm_W) := pm_it (fun _ _ _ _ _ => none) (fun rec k x2 x3 x4 w => b_CL_run_17  S rec x2 x3 x4 w)
def f_CL_run (S : Nat) (x1 : Int32) (w : pm_W) : Option (Int32 × pm_W) :=
  (l_CL_run  S pm_fuel) 0 (if (1 : Int32) < (if (1000 : Int32) < x1 then (1000 : Int32) else x1) then (if (1000 : Int32) < x1 then (1000 : Int32) else x1) else (1 : Int32)) (1 : Int32) (0 : Int32) w
set_option maxHeartbeats 4000000 in
set_option maxRecDepth 100000 in
theorem t_CL_run_17 {p : Program} {l : Launch} {e : Env} {s : State} {m : MethodId} {args : Array Value} {below : List Frame} {meth : Method} {c : Code} {D : va_G} {ca : Nat → ClassId} {ad : Nat → Nat} {adK adV : Nat → Nat} {S : Nat} (K : pm_ok p s m args meth c k_CL_run 5 pmTs R_CL D vwCl (tyl ca) (shC S) ad (st_E adK adV) (some .int)) (rec : Nat → Int32 → Int32 → Int32 → pm_W → Option (Int32 × pm_W)) (r : Int32) (w' : pm_W) (h17 : ∀ (x2 : Int32) (x3 : Int32) (x4 : Int32) (w : pm_W), rec 0 x2 x3 x4 w = some (r, w') → pm_wk p l e { frames := 46, cells := 0, slots := 0, locals := 1284 } s m args below meth c D vwCl (shC S) ca ad 5 (some (.int r), w') 17 [(0, .ref (ad 0)), (2, .int x2), (3, .int x3), (4, .int x4)] [] w) (x2 : Int32) (x3 : Int32) (x4 : Int32) (w : pm_W) (hf : b_CL_run_17  S rec x2 x3 x4 w = some (r, w')) : pm_wk p l e { frames := 46, cells := 0, slots := 0, locals := 1284 } s m args below meth c D vwCl (shC S) ca ad 5 (some (.int r), w') 17 [(0, .ref (ad 0)), (2, .int x2), (3, .int x3), (4, .int x4)] [] w := by
  unfold b_CL_run_17 at hf
  refine pm_iload K d_CL_run_17 3 rfl ?_
  refine pm_iload_n K d_CL_run_19 1 rfl rfl ?_
  refine pm_icmp_ge K d_CL_run_20 42 (by decide) (fun c1 => ?_) (fun c1 => ?_)
  · have hf := pm_ift c1 hf
    refine pm_iload_n K d_CL_run_42 2 rfl rfl ?_
    cases hf
    exact pm_iret K d_CL_run_43
  · have hf := pm_iff c1 hf
    refine pm_iload_n K d_CL_run_23 2 rfl rfl ?_
    refine pm_iconst (v := 1) K d_CL_run_24 (by decide) ?_
    refine pm_icmp_ne K d_CL_run_25 42 (by decide) (fun c2 => ?_) (fun c2 => ?_)
    · have hf := pm_iff c2 hf
      refine pm_iload_n K d_CL_run_42 2 rfl rfl ?_
      cases hf
      exact pm_iret K d_CL_run_43
    · have hf := pm_ift c2 hf
      refine pm_aload_n K d_CL_run_28 0 rfl rfl ?_
      refine pm_getR K fc_0 (o := 0) rfl 5 rfl (by decide) tw_293 d_CL_run_29 ?_
      obtain ⟨o3, z3, hf⟩ := pm_bind hf
      refine pm_callV (As := []) (rest := []) (o := 6) K (c_Machine_step o3.1 o3.2 w z3) mi_Machine_step rfl rfl tw_310 tw_311 tw_309 rfl ⟨rfl, rfl, Nat.le_of_ble_eq_true rfl, Nat.le_of_ble_eq_true rfl⟩ rfl (Nat.le_of_ble_eq_true rfl) d_CL_run_32 ?_
      refine pm_istore_n (lv' := [(3, .int o3.1), (0, .ref (ad 0)), (2, .int x2), (4, .int x4)]) K d_CL_run_35 rfl (by decide) rfl ?_
      refine pm_iinc (v := x4 + (1 : Int32)) (lv' := [(4, .int (x4 + (1 : Int32))), (3, .int o3.1), (0, .ref (ad 0)), (2, .int x2)]) K d_CL_run_36 3 rfl rfl (by decide) rfl ?_
      refine pm_goto K d_CL_run_39 17 (by decide) ?_
      refine pm_sub (lv' := [(0, .ref (ad 0)), (2, .int x2), (3, .int o3.1), (4, .int (x4 + (1 : Int32)))]) [2, 3, 1, 0] rfl ?_
      exact h17 x2 o3.1 (x4 + (1 : Int32)) o3.2 hf
set_option maxHeartbeats 4000000 in
set_option maxRecDepth 100000 in
theorem a_CL_run {p : Program} {l : Launch} {e : Env} {s : State} {m : MethodId} {args : Array Value} {below : List Frame} {meth : Method} {c : Code} {D : va_G} {ca : Nat → ClassId} {ad : Nat → Nat} {adK adV : Nat → Nat} {S : Nat} (K : pm_ok p s m args meth c k_CL_run 5 pmTs R_CL D vwCl (tyl ca) (shC S) ad (st_E adK adV) (some .int)) (r : Int32) (w' : pm_W) : ∀ n : Nat, (∀ (x2 : Int32) (x3 : Int32) (x4 : Int32) (w : pm_W), l_CL_run  S n 0 x2 x3 x4 w = some (r, w') → pm_wk p l e { frames := 46, cells := 0, slots := 0, locals := 1284 } s m args below meth c D vwCl (shC S) ca ad 5 (some (.int r), w') 17 [(0, .ref (ad 0)), (2, .int x2), (3, .int x3), (4, .int x4)] [] w) := by
  intro n
  induction n with
  | zero => exact fun _ _ _ _ hf => (by cases hf)
  | succ n ih => exact fun x2 x3 x4 w hf => t_CL_run_17 K (l_CL_run S n) r w' (ih) x2 x3 x4 w hf
set_option maxHeartbeats 4000000 in
set_option maxRecDepth 100000 in
theorem t_CL_run {p : Program} {l : Launch} {e : Env} {s : State} {m : MethodId} {args : Array Value} {below : List Frame} {meth : Method} {c : Code} {D : va_G} {ca : Nat → ClassId} {ad : Nat → Nat} {adK adV : Nat → Nat} {S : Nat} (K : pm_ok p s m args meth c k_CL_run 5 pmTs R_CL D vwCl (tyl ca) (shC S) ad (st_E adK adV) (some .int)) (r : Int32) (w' : pm_W) (x1 : Int32) (w : pm_W) (hf : f_CL_run  S x1 w = some (r, w')) : pm_wk p l e { frames := 46, cells := 0, slots := 0, locals := 1284 } s m args below meth c D vwCl (shC S) ca ad 5 (some (.int r), w') 0 [(0, .ref (ad 0)), (1, .int x1)] [] w := by
  unfold f_CL_run at hf
  have h17 := (a_CL_run (l := l) (e := e) (below := below) K  r w' pm_fuel)
  refine pm_iconst (v := 1) K d_CL_run_0 (by decide) ?_
  refine pm_iload_n K d_CL_run_1 1 rfl rfl ?_
  refine pm_sipush (v := 1000) K d_CL_run_2 (by decide) ?_
  refine pm_mmin K tw_224 tw_225 tw_101 tw_226 (Nat.le_of_ble_eq_true rfl) (Nat.le_of_ble_eq_true rfl) d_CL_run_5 ?_
  refine pm_mmax K tw_227 tw_228 tw_101 tw_229 (Nat.le_of_ble_eq_true rfl) (Nat.le_of_ble_eq_true rfl) d_CL_run_8 ?_
  refine pm_istore_n (lv' := [(2, .int (if (1 : Int32) < (if (1000 : Int32) < x1 then (1000 : Int32) else x1) then (if (1000 : Int32) < x1 then (1000 : Int32) else x1) else (1 : Int32))), (0, .ref (ad 0)), (1, .int x1)]) K d_CL_run_11 rfl (by decide) rfl ?_
  refine pm_iconst (v := 1) K d_CL_run_12 (by decide) ?_
  refine pm_istore_n (lv' := [(3, .int (1 : Int32)), (2, .int (if (1 : Int32) < (if (1000 : Int32) < x1 then (1000 : Int32) else x1) then (if (1000 : Int32) < x1 then (1000 : Int32) else x1) else (1 : Int32))), (0, .ref (ad 0)), (1, .int x1)]) K d_CL_run_13 rfl (by decide) rfl ?_
  refine pm_iconst (v := 0) K d_CL_run_14 (by decide) ?_
  refine pm_istore (lv' := [(4, .int (0 : Int32)), (3, .int (1 : Int32)), (2, .int (if (1 : Int32) < (if (1000 : Int32) < x1 then (1000 : Int32) else x1) then (if (1000 : Int32) < x1 then (1000 : Int32) else x1) else (1 : Int32))), (0, .ref (ad 0)), (1, .int x1)]) K d_CL_run_15 (by decide) rfl ?_
  refine pm_sub (lv' := [(0, .ref (ad 0)), (2, .int (if (1 : Int32) < (if (1000 : Int32) < x1 then (1000 : Int32) else x1) then (if (1000 : Int32) < x1 then (1000 : Int32) else x1) else (1 : Int32))), (3, .int (1 : Int32)), (4, .int (0 : Int32))]) [3, 2, 1, 0] rfl ?_
  exact h17 (if (1 : Int32) < (if (1000 : Int32) < x1 then (1000 : Int32) else x1) then (if (1000 : Int32) < x1 then (1000 : Int32) else x1) else (1 : Int32)) (1 : Int32) (0 : Int32) w hf
/-- CellLisp.run(I)I -/
theorem c_CL_run {l : Launch} {D : va_G} {ca : Nat → ClassId} {ad : Nat → Nat} {adK adV : Nat → Nat} {S : Nat} (r : Int32) (w' : pm_W) (x1 : Int32) (w : pm_W) (hf : f_CL_run  S x1 w = some (r, w')) : pm_Met l pmTs D vwCl (tyl ca) (shC S) ca ad (st_E adK adV) y_CL_run k_CL_run 5 (some .int) { frames := 46, cells := 0, slots := 0, locals := 1284 } [.ref (ad 0), .int x1] w (some (.int r), w') :=
  pm_start pmTs_good (st_cl adK adV) (by decide) (Nat.le_of_ble_eq_true rfl) (fun p e s m below meth c K => t_CL_run K r w' x1 w hf)

