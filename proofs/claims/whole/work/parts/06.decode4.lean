theorem d_Md_drop_14 : decode k_Md_drop 14 = .ok (.iload_n 2, 1) := by decide +kernel
theorem d_Md_drop_15 : decode k_Md_drop 15 = .ok (.iload_n 1, 1) := by decide +kernel
theorem d_Md_drop_16 : decode k_Md_drop 16 = .ok (.isub, 1) := by decide +kernel
theorem d_Md_drop_17 : decode k_Md_drop 17 = .ok (.aload_n 0, 1) := by decide +kernel
theorem d_Md_drop_18 : decode k_Md_drop 18 = .ok (.getfield 53, 3) := by decide +kernel
theorem d_Md_drop_21 : decode k_Md_drop 21 = .ok (.iload_n 2, 1) := by decide +kernel
theorem d_Md_drop_22 : decode k_Md_drop 22 = .ok (.caload, 1) := by decide +kernel
theorem d_Md_drop_23 : decode k_Md_drop 23 = .ok (.castore, 1) := by decide +kernel
theorem d_Md_drop_24 : decode k_Md_drop 24 = .ok (.iinc 2 1, 3) := by decide +kernel
theorem d_Md_drop_27 : decode k_Md_drop 27 = .ok (.goto (-25), 3) := by decide +kernel
theorem d_Md_drop_30 : decode k_Md_drop 30 = .ok (.aload_n 0, 1) := by decide +kernel
theorem d_Md_drop_31 : decode k_Md_drop 31 = .ok (.aload_n 0, 1) := by decide +kernel
theorem d_Md_drop_32 : decode k_Md_drop 32 = .ok (.getfield 111, 3) := by decide +kernel
theorem d_Md_drop_35 : decode k_Md_drop 35 = .ok (.iload_n 1, 1) := by decide +kernel
theorem d_Md_drop_36 : decode k_Md_drop 36 = .ok (.isub, 1) := by decide +kernel
theorem d_Md_drop_37 : decode k_Md_drop 37 = .ok (.putfield 111, 3) := by decide +kernel
theorem d_Md_drop_40 : decode k_Md_drop 40 = .ok (.return_, 1) := by decide +kernel
theorem d_Md_isFigure_0 : decode k_Md_isFigure 0 = .ok (.aload_n 0, 1) := by decide +kernel
theorem d_Md_isFigure_1 : decode k_Md_isFigure 1 = .ok (.getfield 53, 3) := by decide +kernel
theorem d_Md_isFigure_4 : decode k_Md_isFigure 4 = .ok (.iload_n 1, 1) := by decide +kernel
theorem d_Md_isFigure_5 : decode k_Md_isFigure 5 = .ok (.caload, 1) := by decide +kernel
theorem d_Md_isFigure_6 : decode k_Md_isFigure 6 = .ok (.bipush 45, 2) := by decide +kernel
theorem d_Md_isFigure_8 : decode k_Md_isFigure 8 = .ok (.if_icmp .ne (9), 3) := by decide +kernel
theorem d_Md_isFigure_11 : decode k_Md_isFigure 11 = .ok (.iload_n 1, 1) := by decide +kernel
theorem d_Md_isFigure_12 : decode k_Md_isFigure 12 = .ok (.iconst 1, 1) := by decide +kernel
theorem d_Md_isFigure_13 : decode k_Md_isFigure 13 = .ok (.iadd, 1) := by decide +kernel
theorem d_Md_isFigure_14 : decode k_Md_isFigure 14 = .ok (.goto (4), 3) := by decide +kernel
theorem d_Md_isFigure_17 : decode k_Md_isFigure 17 = .ok (.iload_n 1, 1) := by decide +kernel
theorem d_Md_isFigure_18 : decode k_Md_isFigure 18 = .ok (.istore_n 3, 1) := by decide +kernel
theorem d_Md_isFigure_19 : decode k_Md_isFigure 19 = .ok (.iload_n 3, 1) := by decide +kernel
theorem d_Md_isFigure_20 : decode k_Md_isFigure 20 = .ok (.iload_n 2, 1) := by decide +kernel
theorem d_Md_isFigure_21 : decode k_Md_isFigure 21 = .ok (.if_icmp .ge (15), 3) := by decide +kernel
theorem d_Md_isFigure_24 : decode k_Md_isFigure 24 = .ok (.iload_n 2, 1) := by decide +kernel
theorem d_Md_isFigure_25 : decode k_Md_isFigure 25 = .ok (.iload_n 3, 1) := by decide +kernel
theorem d_Md_isFigure_26 : decode k_Md_isFigure 26 = .ok (.isub, 1) := by decide +kernel
theorem d_Md_isFigure_27 : decode k_Md_isFigure 27 = .ok (.bipush 10, 2) := by decide +kernel
theorem d_Md_isFigure_29 : decode k_Md_isFigure 29 = .ok (.if_icmp .ge (7), 3) := by decide +kernel
theorem d_Md_isFigure_32 : decode k_Md_isFigure 32 = .ok (.iconst 1, 1) := by decide +kernel
theorem d_Md_isFigure_33 : decode k_Md_isFigure 33 = .ok (.goto (4), 3) := by decide +kernel
theorem d_Md_isFigure_36 : decode k_Md_isFigure 36 = .ok (.iconst 0, 1) := by decide +kernel
theorem d_Md_isFigure_37 : decode k_Md_isFigure 37 = .ok (.istore 4, 2) := by decide +kernel
theorem d_Md_isFigure_39 : decode k_Md_isFigure 39 = .ok (.iload_n 3, 1) := by decide +kernel
theorem d_Md_isFigure_40 : decode k_Md_isFigure 40 = .ok (.istore 5, 2) := by decide +kernel
theorem d_Md_isFigure_42 : decode k_Md_isFigure 42 = .ok (.iload 5, 2) := by decide +kernel
theorem d_Md_isFigure_44 : decode k_Md_isFigure 44 = .ok (.iload_n 2, 1) := by decide +kernel
theorem d_Md_isFigure_45 : decode k_Md_isFigure 45 = .ok (.if_icmp .ge (45), 3) := by decide +kernel
theorem d_Md_isFigure_48 : decode k_Md_isFigure 48 = .ok (.iload 4, 2) := by decide +kernel
theorem d_Md_isFigure_50 : decode k_Md_isFigure 50 = .ok (.ifCond .eq (31), 3) := by decide +kernel
theorem d_Md_isFigure_53 : decode k_Md_isFigure 53 = .ok (.aload_n 0, 1) := by decide +kernel
theorem d_Md_isFigure_54 : decode k_Md_isFigure 54 = .ok (.getfield 53, 3) := by decide +kernel
theorem d_Md_isFigure_57 : decode k_Md_isFigure 57 = .ok (.iload 5, 2) := by decide +kernel
theorem d_Md_isFigure_59 : decode k_Md_isFigure 59 = .ok (.caload, 1) := by decide +kernel
theorem d_Md_isFigure_60 : decode k_Md_isFigure 60 = .ok (.bipush 48, 2) := by decide +kernel
theorem d_Md_isFigure_62 : decode k_Md_isFigure 62 = .ok (.if_icmp .lt (19), 3) := by decide +kernel
theorem d_Md_isFigure_65 : decode k_Md_isFigure 65 = .ok (.aload_n 0, 1) := by decide +kernel
theorem d_Md_isFigure_66 : decode k_Md_isFigure 66 = .ok (.getfield 53, 3) := by decide +kernel
theorem d_Md_isFigure_69 : decode k_Md_isFigure 69 = .ok (.iload 5, 2) := by decide +kernel
theorem d_Md_isFigure_71 : decode k_Md_isFigure 71 = .ok (.caload, 1) := by decide +kernel
theorem d_Md_isFigure_72 : decode k_Md_isFigure 72 = .ok (.bipush 57, 2) := by decide +kernel
theorem d_Md_isFigure_74 : decode k_Md_isFigure 74 = .ok (.if_icmp .gt (7), 3) := by decide +kernel
theorem d_Md_isFigure_77 : decode k_Md_isFigure 77 = .ok (.iconst 1, 1) := by decide +kernel
theorem d_Md_isFigure_78 : decode k_Md_isFigure 78 = .ok (.goto (4), 3) := by decide +kernel
theorem d_Md_isFigure_81 : decode k_Md_isFigure 81 = .ok (.iconst 0, 1) := by decide +kernel
theorem d_Md_isFigure_82 : decode k_Md_isFigure 82 = .ok (.istore 4, 2) := by decide +kernel
theorem d_Md_isFigure_84 : decode k_Md_isFigure 84 = .ok (.iinc 5 1, 3) := by decide +kernel
theorem d_Md_isFigure_87 : decode k_Md_isFigure 87 = .ok (.goto (-45), 3) := by decide +kernel
theorem d_Md_isFigure_90 : decode k_Md_isFigure 90 = .ok (.iload 4, 2) := by decide +kernel
theorem d_Md_isFigure_92 : decode k_Md_isFigure 92 = .ok (.ireturn, 1) := by decide +kernel
theorem d_Md_figure_0 : decode k_Md_figure 0 = .ok (.iconst 0, 1) := by decide +kernel
theorem d_Md_figure_1 : decode k_Md_figure 1 = .ok (.istore_n 3, 1) := by decide +kernel
theorem d_Md_figure_2 : decode k_Md_figure 2 = .ok (.aload_n 0, 1) := by decide +kernel
theorem d_Md_figure_3 : decode k_Md_figure 3 = .ok (.getfield 53, 3) := by decide +kernel
theorem d_Md_figure_6 : decode k_Md_figure 6 = .ok (.iload_n 1, 1) := by decide +kernel
theorem d_Md_figure_7 : decode k_Md_figure 7 = .ok (.caload, 1) := by decide +kernel
theorem d_Md_figure_8 : decode k_Md_figure 8 = .ok (.bipush 45, 2) := by decide +kernel
theorem d_Md_figure_10 : decode k_Md_figure 10 = .ok (.if_icmp .ne (9), 3) := by decide +kernel
theorem d_Md_figure_13 : decode k_Md_figure 13 = .ok (.iload_n 1, 1) := by decide +kernel
theorem d_Md_figure_14 : decode k_Md_figure 14 = .ok (.iconst 1, 1) := by decide +kernel
theorem d_Md_figure_15 : decode k_Md_figure 15 = .ok (.iadd, 1) := by decide +kernel
theorem d_Md_figure_16 : decode k_Md_figure 16 = .ok (.goto (4), 3) := by decide +kernel
theorem d_Md_figure_19 : decode k_Md_figure 19 = .ok (.iload_n 1, 1) := by decide +kernel
theorem d_Md_figure_20 : decode k_Md_figure 20 = .ok (.istore 4, 2) := by decide +kernel
theorem d_Md_figure_22 : decode k_Md_figure 22 = .ok (.iload 4, 2) := by decide +kernel
theorem d_Md_figure_24 : decode k_Md_figure 24 = .ok (.iload_n 2, 1) := by decide +kernel
theorem d_Md_figure_25 : decode k_Md_figure 25 = .ok (.if_icmp .ge (25), 3) := by decide +kernel
theorem d_Md_figure_28 : decode k_Md_figure 28 = .ok (.bipush 10, 2) := by decide +kernel
theorem d_Md_figure_30 : decode k_Md_figure 30 = .ok (.iload_n 3, 1) := by decide +kernel
theorem d_Md_figure_31 : decode k_Md_figure 31 = .ok (.imul, 1) := by decide +kernel
theorem d_Md_figure_32 : decode k_Md_figure 32 = .ok (.aload_n 0, 1) := by decide +kernel
theorem d_Md_figure_33 : decode k_Md_figure 33 = .ok (.getfield 53, 3) := by decide +kernel
theorem d_Md_figure_36 : decode k_Md_figure 36 = .ok (.iload 4, 2) := by decide +kernel
theorem d_Md_figure_38 : decode k_Md_figure 38 = .ok (.caload, 1) := by decide +kernel
theorem d_Md_figure_39 : decode k_Md_figure 39 = .ok (.iadd, 1) := by decide +kernel
theorem d_Md_figure_40 : decode k_Md_figure 40 = .ok (.bipush 48, 2) := by decide +kernel
theorem d_Md_figure_42 : decode k_Md_figure 42 = .ok (.isub, 1) := by decide +kernel
theorem d_Md_figure_43 : decode k_Md_figure 43 = .ok (.istore_n 3, 1) := by decide +kernel
theorem d_Md_figure_44 : decode k_Md_figure 44 = .ok (.iinc 4 1, 3) := by decide +kernel
theorem d_Md_figure_47 : decode k_Md_figure 47 = .ok (.goto (-25), 3) := by decide +kernel
theorem d_Md_figure_50 : decode k_Md_figure 50 = .ok (.aload_n 0, 1) := by decide +kernel
theorem d_Md_figure_51 : decode k_Md_figure 51 = .ok (.getfield 53, 3) := by decide +kernel
theorem d_Md_figure_54 : decode k_Md_figure 54 = .ok (.iload_n 1, 1) := by decide +kernel
theorem d_Md_figure_55 : decode k_Md_figure 55 = .ok (.caload, 1) := by decide +kernel
theorem d_Md_figure_56 : decode k_Md_figure 56 = .ok (.bipush 45, 2) := by decide +kernel
theorem d_Md_figure_58 : decode k_Md_figure 58 = .ok (.if_icmp .ne (8), 3) := by decide +kernel
theorem d_Md_figure_61 : decode k_Md_figure 61 = .ok (.iload_n 3, 1) := by decide +kernel
theorem d_Md_figure_62 : decode k_Md_figure 62 = .ok (.ineg, 1) := by decide +kernel
theorem d_Md_figure_63 : decode k_Md_figure 63 = .ok (.goto (4), 3) := by decide +kernel
theorem d_Md_figure_66 : decode k_Md_figure 66 = .ok (.iload_n 3, 1) := by decide +kernel
theorem d_Md_figure_67 : decode k_Md_figure 67 = .ok (.invokestatic 121, 3) := by decide +kernel
theorem d_Md_figure_70 : decode k_Md_figure 70 = .ok (.ireturn, 1) := by decide +kernel
theorem d_Md_isNil_0 : decode k_Md_isNil 0 = .ok (.iload_n 2, 1) := by decide +kernel
theorem d_Md_isNil_1 : decode k_Md_isNil 1 = .ok (.iload_n 1, 1) := by decide +kernel
theorem d_Md_isNil_2 : decode k_Md_isNil 2 = .ok (.isub, 1) := by decide +kernel
theorem d_Md_isNil_3 : decode k_Md_isNil 3 = .ok (.iconst 3, 1) := by decide +kernel
theorem d_Md_isNil_4 : decode k_Md_isNil 4 = .ok (.if_icmp .ne (44), 3) := by decide +kernel
theorem d_Md_isNil_7 : decode k_Md_isNil 7 = .ok (.aload_n 0, 1) := by decide +kernel
theorem d_Md_isNil_8 : decode k_Md_isNil 8 = .ok (.getfield 53, 3) := by decide +kernel
theorem d_Md_isNil_11 : decode k_Md_isNil 11 = .ok (.iload_n 1, 1) := by decide +kernel
theorem d_Md_isNil_12 : decode k_Md_isNil 12 = .ok (.caload, 1) := by decide +kernel
theorem d_Md_isNil_13 : decode k_Md_isNil 13 = .ok (.bipush 110, 2) := by decide +kernel
theorem d_Md_isNil_15 : decode k_Md_isNil 15 = .ok (.if_icmp .ne (33), 3) := by decide +kernel
theorem d_Md_isNil_18 : decode k_Md_isNil 18 = .ok (.aload_n 0, 1) := by decide +kernel
theorem d_Md_isNil_19 : decode k_Md_isNil 19 = .ok (.getfield 53, 3) := by decide +kernel
theorem d_Md_isNil_22 : decode k_Md_isNil 22 = .ok (.iload_n 1, 1) := by decide +kernel
theorem d_Md_isNil_23 : decode k_Md_isNil 23 = .ok (.iconst 1, 1) := by decide +kernel
theorem d_Md_isNil_24 : decode k_Md_isNil 24 = .ok (.iadd, 1) := by decide +kernel
theorem d_Md_isNil_25 : decode k_Md_isNil 25 = .ok (.caload, 1) := by decide +kernel
theorem d_Md_isNil_26 : decode k_Md_isNil 26 = .ok (.bipush 105, 2) := by decide +kernel
theorem d_Md_isNil_28 : decode k_Md_isNil 28 = .ok (.if_icmp .ne (20), 3) := by decide +kernel
theorem d_Md_isNil_31 : decode k_Md_isNil 31 = .ok (.aload_n 0, 1) := by decide +kernel
theorem d_Md_isNil_32 : decode k_Md_isNil 32 = .ok (.getfield 53, 3) := by decide +kernel
theorem d_Md_isNil_35 : decode k_Md_isNil 35 = .ok (.iload_n 1, 1) := by decide +kernel
theorem d_Md_isNil_36 : decode k_Md_isNil 36 = .ok (.iconst 2, 1) := by decide +kernel
theorem d_Md_isNil_37 : decode k_Md_isNil 37 = .ok (.iadd, 1) := by decide +kernel
theorem d_Md_isNil_38 : decode k_Md_isNil 38 = .ok (.caload, 1) := by decide +kernel
theorem d_Md_isNil_39 : decode k_Md_isNil 39 = .ok (.bipush 108, 2) := by decide +kernel
theorem d_Md_isNil_41 : decode k_Md_isNil 41 = .ok (.if_icmp .ne (7), 3) := by decide +kernel
theorem d_Md_isNil_44 : decode k_Md_isNil 44 = .ok (.iconst 1, 1) := by decide +kernel
theorem d_Md_isNil_45 : decode k_Md_isNil 45 = .ok (.goto (4), 3) := by decide +kernel
theorem d_Md_isNil_48 : decode k_Md_isNil 48 = .ok (.iconst 0, 1) := by decide +kernel
theorem d_Md_isNil_49 : decode k_Md_isNil 49 = .ok (.ireturn, 1) := by decide +kernel
theorem d_Md_symbolOf_0 : decode k_Md_symbolOf 0 = .ok (.iconst 0, 1) := by decide +kernel
theorem d_Md_symbolOf_1 : decode k_Md_symbolOf 1 = .ok (.istore_n 3, 1) := by decide +kernel
theorem d_Md_symbolOf_2 : decode k_Md_symbolOf 2 = .ok (.iload_n 3, 1) := by decide +kernel
theorem d_Md_symbolOf_3 : decode k_Md_symbolOf 3 = .ok (.aload_n 0, 1) := by decide +kernel
theorem d_Md_symbolOf_4 : decode k_Md_symbolOf 4 = .ok (.getfield 84, 3) := by decide +kernel
theorem d_Md_symbolOf_7 : decode k_Md_symbolOf 7 = .ok (.if_icmp .ge (83), 3) := by decide +kernel
theorem d_Md_symbolOf_10 : decode k_Md_symbolOf 10 = .ok (.iconst 1, 1) := by decide +kernel
theorem d_Md_symbolOf_11 : decode k_Md_symbolOf 11 = .ok (.istore 4, 2) := by decide +kernel
theorem d_Md_symbolOf_13 : decode k_Md_symbolOf 13 = .ok (.iconst 0, 1) := by decide +kernel
theorem d_Md_symbolOf_14 : decode k_Md_symbolOf 14 = .ok (.istore 5, 2) := by decide +kernel
theorem d_Md_symbolOf_16 : decode k_Md_symbolOf 16 = .ok (.iload 5, 2) := by decide +kernel
theorem d_Md_symbolOf_18 : decode k_Md_symbolOf 18 = .ok (.bipush 8, 2) := by decide +kernel
theorem d_Md_symbolOf_20 : decode k_Md_symbolOf 20 = .ok (.if_icmp .ge (57), 3) := by decide +kernel
theorem d_Md_symbolOf_23 : decode k_Md_symbolOf 23 = .ok (.iload 4, 2) := by decide +kernel
theorem d_Md_symbolOf_25 : decode k_Md_symbolOf 25 = .ok (.ifCond .eq (52), 3) := by decide +kernel
theorem d_Md_symbolOf_28 : decode k_Md_symbolOf 28 = .ok (.aload_n 0, 1) := by decide +kernel
theorem d_Md_symbolOf_29 : decode k_Md_symbolOf 29 = .ok (.getfield 38, 3) := by decide +kernel
theorem d_Md_symbolOf_32 : decode k_Md_symbolOf 32 = .ok (.bipush 8, 2) := by decide +kernel
theorem d_Md_symbolOf_34 : decode k_Md_symbolOf 34 = .ok (.iload_n 3, 1) := by decide +kernel
theorem d_Md_symbolOf_35 : decode k_Md_symbolOf 35 = .ok (.imul, 1) := by decide +kernel
theorem d_Md_symbolOf_36 : decode k_Md_symbolOf 36 = .ok (.iload 5, 2) := by decide +kernel
theorem d_Md_symbolOf_38 : decode k_Md_symbolOf 38 = .ok (.iadd, 1) := by decide +kernel
theorem d_Md_symbolOf_39 : decode k_Md_symbolOf 39 = .ok (.caload, 1) := by decide +kernel
theorem d_Md_symbolOf_40 : decode k_Md_symbolOf 40 = .ok (.iload_n 1, 1) := by decide +kernel
theorem d_Md_symbolOf_41 : decode k_Md_symbolOf 41 = .ok (.iload 5, 2) := by decide +kernel
theorem d_Md_symbolOf_43 : decode k_Md_symbolOf 43 = .ok (.iadd, 1) := by decide +kernel
theorem d_Md_symbolOf_44 : decode k_Md_symbolOf 44 = .ok (.iload_n 2, 1) := by decide +kernel
theorem d_Md_symbolOf_45 : decode k_Md_symbolOf 45 = .ok (.if_icmp .ge (15), 3) := by decide +kernel
theorem d_Md_symbolOf_48 : decode k_Md_symbolOf 48 = .ok (.aload_n 0, 1) := by decide +kernel
theorem d_Md_symbolOf_49 : decode k_Md_symbolOf 49 = .ok (.getfield 53, 3) := by decide +kernel
theorem d_Md_symbolOf_52 : decode k_Md_symbolOf 52 = .ok (.iload_n 1, 1) := by decide +kernel
theorem d_Md_symbolOf_53 : decode k_Md_symbolOf 53 = .ok (.iload 5, 2) := by decide +kernel
theorem d_Md_symbolOf_55 : decode k_Md_symbolOf 55 = .ok (.iadd, 1) := by decide +kernel
theorem d_Md_symbolOf_56 : decode k_Md_symbolOf 56 = .ok (.caload, 1) := by decide +kernel
theorem d_Md_symbolOf_57 : decode k_Md_symbolOf 57 = .ok (.goto (4), 3) := by decide +kernel
theorem d_Md_symbolOf_60 : decode k_Md_symbolOf 60 = .ok (.iconst 0, 1) := by decide +kernel
theorem d_Md_symbolOf_61 : decode k_Md_symbolOf 61 = .ok (.if_icmp .ne (7), 3) := by decide +kernel
theorem d_Md_symbolOf_64 : decode k_Md_symbolOf 64 = .ok (.iconst 1, 1) := by decide +kernel
theorem d_Md_symbolOf_65 : decode k_Md_symbolOf 65 = .ok (.goto (4), 3) := by decide +kernel
theorem d_Md_symbolOf_68 : decode k_Md_symbolOf 68 = .ok (.iconst 0, 1) := by decide +kernel
theorem d_Md_symbolOf_69 : decode k_Md_symbolOf 69 = .ok (.istore 4, 2) := by decide +kernel
theorem d_Md_symbolOf_71 : decode k_Md_symbolOf 71 = .ok (.iinc 5 1, 3) := by decide +kernel
theorem d_Md_symbolOf_74 : decode k_Md_symbolOf 74 = .ok (.goto (-58), 3) := by decide +kernel
theorem d_Md_symbolOf_77 : decode k_Md_symbolOf 77 = .ok (.iload 4, 2) := by decide +kernel
theorem d_Md_symbolOf_79 : decode k_Md_symbolOf 79 = .ok (.ifCond .eq (5), 3) := by decide +kernel
theorem d_Md_symbolOf_82 : decode k_Md_symbolOf 82 = .ok (.iload_n 3, 1) := by decide +kernel
theorem d_Md_symbolOf_83 : decode k_Md_symbolOf 83 = .ok (.ireturn, 1) := by decide +kernel
theorem d_Md_symbolOf_84 : decode k_Md_symbolOf 84 = .ok (.iinc 3 1, 3) := by decide +kernel
theorem d_Md_symbolOf_87 : decode k_Md_symbolOf 87 = .ok (.goto (-85), 3) := by decide +kernel
theorem d_Md_symbolOf_90 : decode k_Md_symbolOf 90 = .ok (.aload_n 0, 1) := by decide +kernel
theorem d_Md_symbolOf_91 : decode k_Md_symbolOf 91 = .ok (.getfield 84, 3) := by decide +kernel
theorem d_Md_symbolOf_94 : decode k_Md_symbolOf 94 = .ok (.ireturn, 1) := by decide +kernel
theorem d_Md_atom_0 : decode k_Md_atom 0 = .ok (.aload_n 0, 1) := by decide +kernel
theorem d_Md_atom_1 : decode k_Md_atom 1 = .ok (.iload_n 1, 1) := by decide +kernel
theorem d_Md_atom_2 : decode k_Md_atom 2 = .ok (.iload_n 2, 1) := by decide +kernel
theorem d_Md_atom_3 : decode k_Md_atom 3 = .ok (.invokevirtual 125, 3) := by decide +kernel
theorem d_Md_atom_6 : decode k_Md_atom 6 = .ok (.ifCond .eq (12), 3) := by decide +kernel
theorem d_Md_atom_9 : decode k_Md_atom 9 = .ok (.aload_n 0, 1) := by decide +kernel
theorem d_Md_atom_10 : decode k_Md_atom 10 = .ok (.iload_n 1, 1) := by decide +kernel
theorem d_Md_atom_11 : decode k_Md_atom 11 = .ok (.iload_n 2, 1) := by decide +kernel
theorem d_Md_atom_12 : decode k_Md_atom 12 = .ok (.invokevirtual 129, 3) := by decide +kernel
theorem d_Md_atom_15 : decode k_Md_atom 15 = .ok (.goto (26), 3) := by decide +kernel
theorem d_Md_atom_18 : decode k_Md_atom 18 = .ok (.aload_n 0, 1) := by decide +kernel
theorem d_Md_atom_19 : decode k_Md_atom 19 = .ok (.iload_n 1, 1) := by decide +kernel
theorem d_Md_atom_20 : decode k_Md_atom 20 = .ok (.iload_n 2, 1) := by decide +kernel
theorem d_Md_atom_21 : decode k_Md_atom 21 = .ok (.invokevirtual 133, 3) := by decide +kernel
theorem d_Md_atom_24 : decode k_Md_atom 24 = .ok (.ifCond .eq (8), 3) := by decide +kernel
theorem d_Md_atom_27 : decode k_Md_atom 27 = .ok (.ldc 45, 2) := by decide +kernel
theorem d_Md_atom_29 : decode k_Md_atom 29 = .ok (.goto (12), 3) := by decide +kernel
theorem d_Md_atom_32 : decode k_Md_atom 32 = .ok (.ldc 90, 2) := by decide +kernel
theorem d_Md_atom_34 : decode k_Md_atom 34 = .ok (.aload_n 0, 1) := by decide +kernel
theorem d_Md_atom_35 : decode k_Md_atom 35 = .ok (.iload_n 1, 1) := by decide +kernel
theorem d_Md_atom_36 : decode k_Md_atom 36 = .ok (.iload_n 2, 1) := by decide +kernel
theorem d_Md_atom_37 : decode k_Md_atom 37 = .ok (.invokevirtual 136, 3) := by decide +kernel
theorem d_Md_atom_40 : decode k_Md_atom 40 = .ok (.iadd, 1) := by decide +kernel
theorem d_Md_atom_41 : decode k_Md_atom 41 = .ok (.ireturn, 1) := by decide +kernel
theorem d_Md_meet_0 : decode k_Md_meet 0 = .ok (.aload_n 0, 1) := by decide +kernel
theorem d_Md_meet_1 : decode k_Md_meet 1 = .ok (.iload_n 1, 1) := by decide +kernel
theorem d_Md_meet_2 : decode k_Md_meet 2 = .ok (.iload_n 2, 1) := by decide +kernel
theorem d_Md_meet_3 : decode k_Md_meet 3 = .ok (.invokevirtual 125, 3) := by decide +kernel
theorem d_Md_meet_6 : decode k_Md_meet 6 = .ok (.ifCond .ne (25), 3) := by decide +kernel
theorem d_Md_meet_9 : decode k_Md_meet 9 = .ok (.aload_n 0, 1) := by decide +kernel
theorem d_Md_meet_10 : decode k_Md_meet 10 = .ok (.iload_n 1, 1) := by decide +kernel
theorem d_Md_meet_11 : decode k_Md_meet 11 = .ok (.iload_n 2, 1) := by decide +kernel
theorem d_Md_meet_12 : decode k_Md_meet 12 = .ok (.invokevirtual 133, 3) := by decide +kernel
theorem d_Md_meet_15 : decode k_Md_meet 15 = .ok (.ifCond .ne (16), 3) := by decide +kernel
theorem d_Md_meet_18 : decode k_Md_meet 18 = .ok (.aload_n 0, 1) := by decide +kernel
theorem d_Md_meet_19 : decode k_Md_meet 19 = .ok (.iload_n 1, 1) := by decide +kernel
theorem d_Md_meet_20 : decode k_Md_meet 20 = .ok (.iload_n 2, 1) := by decide +kernel
theorem d_Md_meet_21 : decode k_Md_meet 21 = .ok (.invokevirtual 136, 3) := by decide +kernel
theorem d_Md_meet_24 : decode k_Md_meet 24 = .ok (.aload_n 0, 1) := by decide +kernel
theorem d_Md_meet_25 : decode k_Md_meet 25 = .ok (.getfield 84, 3) := by decide +kernel
theorem d_Md_meet_28 : decode k_Md_meet 28 = .ok (.if_icmp .ge (5), 3) := by decide +kernel
theorem d_Md_meet_31 : decode k_Md_meet 31 = .ok (.iconst 1, 1) := by decide +kernel
theorem d_Md_meet_32 : decode k_Md_meet 32 = .ok (.ireturn, 1) := by decide +kernel
theorem d_Md_meet_33 : decode k_Md_meet 33 = .ok (.aload_n 0, 1) := by decide +kernel
theorem d_Md_meet_34 : decode k_Md_meet 34 = .ok (.getfield 84, 3) := by decide +kernel
theorem d_Md_meet_37 : decode k_Md_meet 37 = .ok (.bipush 40, 2) := by decide +kernel
theorem d_Md_meet_39 : decode k_Md_meet 39 = .ok (.if_icmp .ne (5), 3) := by decide +kernel
theorem d_Md_meet_42 : decode k_Md_meet 42 = .ok (.iconst 0, 1) := by decide +kernel
theorem d_Md_meet_43 : decode k_Md_meet 43 = .ok (.ireturn, 1) := by decide +kernel
theorem d_Md_meet_44 : decode k_Md_meet 44 = .ok (.iconst 0, 1) := by decide +kernel
theorem d_Md_meet_45 : decode k_Md_meet 45 = .ok (.istore_n 3, 1) := by decide +kernel
theorem d_Md_meet_46 : decode k_Md_meet 46 = .ok (.iload_n 3, 1) := by decide +kernel
theorem d_Md_meet_47 : decode k_Md_meet 47 = .ok (.bipush 8, 2) := by decide +kernel
theorem d_Md_meet_49 : decode k_Md_meet 49 = .ok (.if_icmp .ge (42), 3) := by decide +kernel
theorem d_Md_meet_52 : decode k_Md_meet 52 = .ok (.aload_n 0, 1) := by decide +kernel
theorem d_Md_meet_53 : decode k_Md_meet 53 = .ok (.getfield 38, 3) := by decide +kernel
theorem d_Md_meet_56 : decode k_Md_meet 56 = .ok (.bipush 8, 2) := by decide +kernel
theorem d_Md_meet_58 : decode k_Md_meet 58 = .ok (.aload_n 0, 1) := by decide +kernel
theorem d_Md_meet_59 : decode k_Md_meet 59 = .ok (.getfield 84, 3) := by decide +kernel
theorem d_Md_meet_62 : decode k_Md_meet 62 = .ok (.imul, 1) := by decide +kernel
theorem d_Md_meet_63 : decode k_Md_meet 63 = .ok (.iload_n 3, 1) := by decide +kernel
theorem d_Md_meet_64 : decode k_Md_meet 64 = .ok (.iadd, 1) := by decide +kernel
theorem d_Md_meet_65 : decode k_Md_meet 65 = .ok (.iload_n 1, 1) := by decide +kernel
theorem d_Md_meet_66 : decode k_Md_meet 66 = .ok (.iload_n 3, 1) := by decide +kernel
theorem d_Md_meet_67 : decode k_Md_meet 67 = .ok (.iadd, 1) := by decide +kernel
theorem d_Md_meet_68 : decode k_Md_meet 68 = .ok (.iload_n 2, 1) := by decide +kernel
theorem d_Md_meet_69 : decode k_Md_meet 69 = .ok (.if_icmp .ge (14), 3) := by decide +kernel
theorem d_Md_meet_72 : decode k_Md_meet 72 = .ok (.aload_n 0, 1) := by decide +kernel
theorem d_Md_meet_73 : decode k_Md_meet 73 = .ok (.getfield 53, 3) := by decide +kernel
theorem d_Md_meet_76 : decode k_Md_meet 76 = .ok (.iload_n 1, 1) := by decide +kernel
theorem d_Md_meet_77 : decode k_Md_meet 77 = .ok (.iload_n 3, 1) := by decide +kernel
theorem d_Md_meet_78 : decode k_Md_meet 78 = .ok (.iadd, 1) := by decide +kernel
theorem d_Md_meet_79 : decode k_Md_meet 79 = .ok (.caload, 1) := by decide +kernel
theorem d_Md_meet_80 : decode k_Md_meet 80 = .ok (.goto (4), 3) := by decide +kernel
theorem d_Md_meet_83 : decode k_Md_meet 83 = .ok (.iconst 0, 1) := by decide +kernel
theorem d_Md_meet_84 : decode k_Md_meet 84 = .ok (.castore, 1) := by decide +kernel
theorem d_Md_meet_85 : decode k_Md_meet 85 = .ok (.iinc 3 1, 3) := by decide +kernel
theorem d_Md_meet_88 : decode k_Md_meet 88 = .ok (.goto (-42), 3) := by decide +kernel
theorem d_Md_meet_91 : decode k_Md_meet 91 = .ok (.aload_n 0, 1) := by decide +kernel
theorem d_Md_meet_92 : decode k_Md_meet 92 = .ok (.dup, 1) := by decide +kernel
theorem d_Md_meet_93 : decode k_Md_meet 93 = .ok (.getfield 84, 3) := by decide +kernel
theorem d_Md_meet_96 : decode k_Md_meet 96 = .ok (.iconst 1, 1) := by decide +kernel
theorem d_Md_meet_97 : decode k_Md_meet 97 = .ok (.iadd, 1) := by decide +kernel
theorem d_Md_meet_98 : decode k_Md_meet 98 = .ok (.putfield 84, 3) := by decide +kernel
theorem d_Md_meet_101 : decode k_Md_meet 101 = .ok (.iconst 1, 1) := by decide +kernel
theorem d_Md_meet_102 : decode k_Md_meet 102 = .ok (.ireturn, 1) := by decide +kernel
theorem d_Md_lookOver_0 : decode k_Md_lookOver 0 = .ok (.iconst 0, 1) := by decide +kernel
theorem d_Md_lookOver_1 : decode k_Md_lookOver 1 = .ok (.istore_n 1, 1) := by decide +kernel
theorem d_Md_lookOver_2 : decode k_Md_lookOver 2 = .ok (.iconst 0, 1) := by decide +kernel
theorem d_Md_lookOver_3 : decode k_Md_lookOver 3 = .ok (.istore_n 2, 1) := by decide +kernel
theorem d_Md_lookOver_4 : decode k_Md_lookOver 4 = .ok (.aload_n 0, 1) := by decide +kernel
theorem d_Md_lookOver_5 : decode k_Md_lookOver 5 = .ok (.iconst 0, 1) := by decide +kernel
theorem d_Md_lookOver_6 : decode k_Md_lookOver 6 = .ok (.putfield 139, 3) := by decide +kernel
theorem d_Md_lookOver_9 : decode k_Md_lookOver 9 = .ok (.aload_n 0, 1) := by decide +kernel
theorem d_Md_lookOver_10 : decode k_Md_lookOver 10 = .ok (.iconst 0, 1) := by decide +kernel
theorem d_Md_lookOver_11 : decode k_Md_lookOver 11 = .ok (.invokevirtual 142, 3) := by decide +kernel
theorem d_Md_lookOver_14 : decode k_Md_lookOver 14 = .ok (.istore_n 3, 1) := by decide +kernel
theorem d_Md_lookOver_15 : decode k_Md_lookOver 15 = .ok (.iload_n 3, 1) := by decide +kernel
theorem d_Md_lookOver_16 : decode k_Md_lookOver 16 = .ok (.aload_n 0, 1) := by decide +kernel
theorem d_Md_lookOver_17 : decode k_Md_lookOver 17 = .ok (.getfield 111, 3) := by decide +kernel
theorem d_Md_lookOver_20 : decode k_Md_lookOver 20 = .ok (.if_icmp .ge (179), 3) := by decide +kernel
theorem d_Md_lookOver_23 : decode k_Md_lookOver 23 = .ok (.aload_n 0, 1) := by decide +kernel
theorem d_Md_lookOver_24 : decode k_Md_lookOver 24 = .ok (.getfield 53, 3) := by decide +kernel
theorem d_Md_lookOver_27 : decode k_Md_lookOver 27 = .ok (.iload_n 3, 1) := by decide +kernel
theorem d_Md_lookOver_28 : decode k_Md_lookOver 28 = .ok (.caload, 1) := by decide +kernel
theorem d_Md_lookOver_29 : decode k_Md_lookOver 29 = .ok (.istore 4, 2) := by decide +kernel
theorem d_Md_lookOver_31 : decode k_Md_lookOver 31 = .ok (.aload_n 0, 1) := by decide +kernel
theorem d_Md_lookOver_32 : decode k_Md_lookOver 32 = .ok (.aload_n 0, 1) := by decide +kernel
theorem d_Md_lookOver_33 : decode k_Md_lookOver 33 = .ok (.iload_n 3, 1) := by decide +kernel
theorem d_Md_lookOver_34 : decode k_Md_lookOver 34 = .ok (.invokevirtual 145, 3) := by decide +kernel
theorem d_Md_lookOver_37 : decode k_Md_lookOver 37 = .ok (.putfield 148, 3) := by decide +kernel
theorem d_Md_lookOver_40 : decode k_Md_lookOver 40 = .ok (.iload 4, 2) := by decide +kernel
theorem d_Md_lookOver_42 : decode k_Md_lookOver 42 = .ok (.bipush 41, 2) := by decide +kernel
theorem d_Md_lookOver_44 : decode k_Md_lookOver 44 = .ok (.if_icmp .ne (11), 3) := by decide +kernel
theorem d_Md_lookOver_47 : decode k_Md_lookOver 47 = .ok (.iload_n 1, 1) := by decide +kernel
theorem d_Md_lookOver_48 : decode k_Md_lookOver 48 = .ok (.ifCond .eq (31), 3) := by decide +kernel
theorem d_Md_lookOver_51 : decode k_Md_lookOver 51 = .ok (.iload_n 2, 1) := by decide +kernel
theorem d_Md_lookOver_52 : decode k_Md_lookOver 52 = .ok (.ifCond .ne (27), 3) := by decide +kernel
theorem d_Md_lookOver_55 : decode k_Md_lookOver 55 = .ok (.iload 4, 2) := by decide +kernel
theorem d_Md_lookOver_57 : decode k_Md_lookOver 57 = .ok (.bipush 39, 2) := by decide +kernel
theorem d_Md_lookOver_59 : decode k_Md_lookOver 59 = .ok (.if_icmp .ne (7), 3) := by decide +kernel
theorem d_Md_lookOver_62 : decode k_Md_lookOver 62 = .ok (.iload_n 2, 1) := by decide +kernel
theorem d_Md_lookOver_63 : decode k_Md_lookOver 63 = .ok (.ifCond .ne (16), 3) := by decide +kernel
theorem d_Md_lookOver_66 : decode k_Md_lookOver 66 = .ok (.iload 4, 2) := by decide +kernel
theorem d_Md_lookOver_68 : decode k_Md_lookOver 68 = .ok (.bipush 40, 2) := by decide +kernel
theorem d_Md_lookOver_70 : decode k_Md_lookOver 70 = .ok (.if_icmp .ne (11), 3) := by decide +kernel
theorem d_Md_lookOver_73 : decode k_Md_lookOver 73 = .ok (.iload_n 1, 1) := by decide +kernel
theorem d_Md_lookOver_74 : decode k_Md_lookOver 74 = .ok (.bipush 10, 2) := by decide +kernel
theorem d_Md_lookOver_76 : decode k_Md_lookOver 76 = .ok (.if_icmp .ne (5), 3) := by decide +kernel
theorem d_Md_lookOver_79 : decode k_Md_lookOver 79 = .ok (.iconst (-1), 1) := by decide +kernel
theorem d_Md_lookOver_80 : decode k_Md_lookOver 80 = .ok (.ireturn, 1) := by decide +kernel
theorem d_Md_lookOver_81 : decode k_Md_lookOver 81 = .ok (.iload 4, 2) := by decide +kernel
theorem d_Md_lookOver_83 : decode k_Md_lookOver 83 = .ok (.invokestatic 118, 3) := by decide +kernel
theorem d_Md_lookOver_86 : decode k_Md_lookOver 86 = .ok (.ifCond .ne (16), 3) := by decide +kernel
theorem d_Md_lookOver_89 : decode k_Md_lookOver 89 = .ok (.aload_n 0, 1) := by decide +kernel
theorem d_Md_lookOver_90 : decode k_Md_lookOver 90 = .ok (.getfield 148, 3) := by decide +kernel
theorem d_Md_lookOver_93 : decode k_Md_lookOver 93 = .ok (.aload_n 0, 1) := by decide +kernel
theorem d_Md_lookOver_94 : decode k_Md_lookOver 94 = .ok (.getfield 111, 3) := by decide +kernel
theorem d_Md_lookOver_97 : decode k_Md_lookOver 97 = .ok (.if_icmp .ne (5), 3) := by decide +kernel
theorem d_Md_lookOver_100 : decode k_Md_lookOver 100 = .ok (.iconst 0, 1) := by decide +kernel
theorem d_Md_lookOver_101 : decode k_Md_lookOver 101 = .ok (.ireturn, 1) := by decide +kernel
theorem d_Md_lookOver_102 : decode k_Md_lookOver 102 = .ok (.iload 4, 2) := by decide +kernel
theorem d_Md_lookOver_104 : decode k_Md_lookOver 104 = .ok (.bipush 39, 2) := by decide +kernel
theorem d_Md_lookOver_106 : decode k_Md_lookOver 106 = .ok (.if_icmp .ne (13), 3) := by decide +kernel
theorem d_Md_lookOver_109 : decode k_Md_lookOver 109 = .ok (.aload_n 0, 1) := by decide +kernel
theorem d_Md_lookOver_110 : decode k_Md_lookOver 110 = .ok (.dup, 1) := by decide +kernel
theorem d_Md_lookOver_111 : decode k_Md_lookOver 111 = .ok (.getfield 139, 3) := by decide +kernel
theorem d_Md_lookOver_114 : decode k_Md_lookOver 114 = .ok (.iconst 4, 1) := by decide +kernel
theorem d_Md_lookOver_115 : decode k_Md_lookOver 115 = .ok (.iadd, 1) := by decide +kernel
theorem d_Md_lookOver_116 : decode k_Md_lookOver 116 = .ok (.putfield 139, 3) := by decide +kernel
theorem d_Md_lookOver_119 : decode k_Md_lookOver 119 = .ok (.iload 4, 2) := by decide +kernel
theorem d_Md_lookOver_121 : decode k_Md_lookOver 121 = .ok (.bipush 41, 2) := by decide +kernel
theorem d_Md_lookOver_123 : decode k_Md_lookOver 123 = .ok (.if_icmp .eq (21), 3) := by decide +kernel
theorem d_Md_lookOver_126 : decode k_Md_lookOver 126 = .ok (.iload_n 2, 1) := by decide +kernel
theorem d_Md_lookOver_127 : decode k_Md_lookOver 127 = .ok (.ifCond .ne (17), 3) := by decide +kernel
theorem d_Md_lookOver_130 : decode k_Md_lookOver 130 = .ok (.iload_n 1, 1) := by decide +kernel
theorem d_Md_lookOver_131 : decode k_Md_lookOver 131 = .ok (.ifCond .le (13), 3) := by decide +kernel
theorem d_Md_lookOver_134 : decode k_Md_lookOver 134 = .ok (.aload_n 0, 1) := by decide +kernel
theorem d_Md_lookOver_135 : decode k_Md_lookOver 135 = .ok (.dup, 1) := by decide +kernel
theorem d_Md_lookOver_136 : decode k_Md_lookOver 136 = .ok (.getfield 139, 3) := by decide +kernel
theorem d_Md_lookOver_139 : decode k_Md_lookOver 139 = .ok (.iconst 2, 1) := by decide +kernel
theorem d_Md_lookOver_140 : decode k_Md_lookOver 140 = .ok (.iadd, 1) := by decide +kernel
theorem d_Md_lookOver_141 : decode k_Md_lookOver 141 = .ok (.putfield 139, 3) := by decide +kernel
theorem d_Md_lookOver_144 : decode k_Md_lookOver 144 = .ok (.iload 4, 2) := by decide +kernel
theorem d_Md_lookOver_146 : decode k_Md_lookOver 146 = .ok (.bipush 40, 2) := by decide +kernel
theorem d_Md_lookOver_148 : decode k_Md_lookOver 148 = .ok (.if_icmp .ne (6), 3) := by decide +kernel
theorem d_Md_lookOver_151 : decode k_Md_lookOver 151 = .ok (.iinc 1 1, 3) := by decide +kernel
theorem d_Md_lookOver_154 : decode k_Md_lookOver 154 = .ok (.iload 4, 2) := by decide +kernel
theorem d_Md_lookOver_156 : decode k_Md_lookOver 156 = .ok (.bipush 41, 2) := by decide +kernel
theorem d_Md_lookOver_158 : decode k_Md_lookOver 158 = .ok (.if_icmp .ne (6), 3) := by decide +kernel
theorem d_Md_lookOver_161 : decode k_Md_lookOver 161 = .ok (.iinc 1 (-1), 3) := by decide +kernel
theorem d_Md_lookOver_164 : decode k_Md_lookOver 164 = .ok (.iload 4, 2) := by decide +kernel
theorem d_Md_lookOver_166 : decode k_Md_lookOver 166 = .ok (.bipush 39, 2) := by decide +kernel
theorem d_Md_lookOver_168 : decode k_Md_lookOver 168 = .ok (.if_icmp .ne (7), 3) := by decide +kernel
theorem d_Md_lookOver_171 : decode k_Md_lookOver 171 = .ok (.iconst 1, 1) := by decide +kernel
theorem d_Md_lookOver_172 : decode k_Md_lookOver 172 = .ok (.goto (4), 3) := by decide +kernel
theorem d_Md_lookOver_175 : decode k_Md_lookOver 175 = .ok (.iconst 0, 1) := by decide +kernel
theorem d_Md_lookOver_176 : decode k_Md_lookOver 176 = .ok (.istore_n 2, 1) := by decide +kernel
theorem d_Md_lookOver_177 : decode k_Md_lookOver 177 = .ok (.iload_n 1, 1) := by decide +kernel
theorem d_Md_lookOver_178 : decode k_Md_lookOver 178 = .ok (.ifCond .ne (9), 3) := by decide +kernel
theorem d_Md_lookOver_181 : decode k_Md_lookOver 181 = .ok (.iload_n 2, 1) := by decide +kernel
theorem d_Md_lookOver_182 : decode k_Md_lookOver 182 = .ok (.ifCond .ne (5), 3) := by decide +kernel
theorem d_Md_lookOver_185 : decode k_Md_lookOver 185 = .ok (.iconst 1, 1) := by decide +kernel
theorem d_Md_lookOver_186 : decode k_Md_lookOver 186 = .ok (.ireturn, 1) := by decide +kernel
theorem d_Md_lookOver_187 : decode k_Md_lookOver 187 = .ok (.aload_n 0, 1) := by decide +kernel
theorem d_Md_lookOver_188 : decode k_Md_lookOver 188 = .ok (.aload_n 0, 1) := by decide +kernel
theorem d_Md_lookOver_189 : decode k_Md_lookOver 189 = .ok (.getfield 148, 3) := by decide +kernel
theorem d_Md_lookOver_192 : decode k_Md_lookOver 192 = .ok (.invokevirtual 142, 3) := by decide +kernel
theorem d_Md_lookOver_195 : decode k_Md_lookOver 195 = .ok (.istore_n 3, 1) := by decide +kernel
theorem d_Md_lookOver_196 : decode k_Md_lookOver 196 = .ok (.goto (-181), 3) := by decide +kernel
theorem d_Md_lookOver_199 : decode k_Md_lookOver 199 = .ok (.iconst 0, 1) := by decide +kernel
theorem d_Md_lookOver_200 : decode k_Md_lookOver 200 = .ok (.ireturn, 1) := by decide +kernel
theorem d_Md_arrived_0 : decode k_Md_arrived 0 = .ok (.aload_n 0, 1) := by decide +kernel
theorem d_Md_arrived_1 : decode k_Md_arrived 1 = .ok (.getfield 65, 3) := by decide +kernel
theorem d_Md_arrived_4 : decode k_Md_arrived 4 = .ok (.iload_n 1, 1) := by decide +kernel
theorem d_Md_arrived_5 : decode k_Md_arrived 5 = .ok (.baload, 1) := by decide +kernel
theorem d_Md_arrived_6 : decode k_Md_arrived 6 = .ok (.ifCond .eq (19), 3) := by decide +kernel
theorem d_Md_arrived_9 : decode k_Md_arrived 9 = .ok (.aload_n 0, 1) := by decide +kernel
theorem d_Md_arrived_10 : decode k_Md_arrived 10 = .ok (.ldc 151, 2) := by decide +kernel
theorem d_Md_arrived_12 : decode k_Md_arrived 12 = .ok (.aload_n 0, 1) := by decide +kernel
theorem d_Md_arrived_13 : decode k_Md_arrived 13 = .ok (.iload_n 2, 1) := by decide +kernel
theorem d_Md_arrived_14 : decode k_Md_arrived 14 = .ok (.ldc 45, 2) := by decide +kernel
theorem d_Md_arrived_16 : decode k_Md_arrived 16 = .ok (.invokevirtual 152, 3) := by decide +kernel
theorem d_Md_arrived_19 : decode k_Md_arrived 19 = .ok (.invokevirtual 152, 3) := by decide +kernel
theorem d_Md_arrived_22 : decode k_Md_arrived 22 = .ok (.goto (4), 3) := by decide +kernel
theorem d_Md_arrived_25 : decode k_Md_arrived 25 = .ok (.iload_n 2, 1) := by decide +kernel
theorem d_Md_arrived_26 : decode k_Md_arrived 26 = .ok (.istore_n 3, 1) := by decide +kernel
theorem d_Md_arrived_27 : decode k_Md_arrived 27 = .ok (.aload_n 0, 1) := by decide +kernel
theorem d_Md_arrived_28 : decode k_Md_arrived 28 = .ok (.getfield 65, 3) := by decide +kernel
theorem d_Md_arrived_31 : decode k_Md_arrived 31 = .ok (.iload_n 1, 1) := by decide +kernel
theorem d_Md_arrived_32 : decode k_Md_arrived 32 = .ok (.iconst 0, 1) := by decide +kernel
theorem d_Md_arrived_33 : decode k_Md_arrived 33 = .ok (.bastore, 1) := by decide +kernel
theorem d_Md_arrived_34 : decode k_Md_arrived 34 = .ok (.iload_n 1, 1) := by decide +kernel
theorem d_Md_arrived_35 : decode k_Md_arrived 35 = .ok (.ifCond .ne (9), 3) := by decide +kernel
theorem d_Md_arrived_38 : decode k_Md_arrived 38 = .ok (.aload_n 0, 1) := by decide +kernel
theorem d_Md_arrived_39 : decode k_Md_arrived 39 = .ok (.iload_n 3, 1) := by decide +kernel
theorem d_Md_arrived_40 : decode k_Md_arrived 40 = .ok (.putfield 46, 3) := by decide +kernel
theorem d_Md_arrived_43 : decode k_Md_arrived 43 = .ok (.return_, 1) := by decide +kernel
theorem d_Md_arrived_44 : decode k_Md_arrived 44 = .ok (.aload_n 0, 1) := by decide +kernel
theorem d_Md_arrived_45 : decode k_Md_arrived 45 = .ok (.iload_n 3, 1) := by decide +kernel
theorem d_Md_arrived_46 : decode k_Md_arrived 46 = .ok (.ldc 45, 2) := by decide +kernel
theorem d_Md_arrived_48 : decode k_Md_arrived 48 = .ok (.invokevirtual 152, 3) := by decide +kernel
theorem d_Md_arrived_51 : decode k_Md_arrived 51 = .ok (.istore 4, 2) := by decide +kernel
theorem d_Md_arrived_53 : decode k_Md_arrived 53 = .ok (.aload_n 0, 1) := by decide +kernel
theorem d_Md_arrived_54 : decode k_Md_arrived 54 = .ok (.getfield 59, 3) := by decide +kernel
theorem d_Md_arrived_57 : decode k_Md_arrived 57 = .ok (.iload_n 1, 1) := by decide +kernel
theorem d_Md_arrived_58 : decode k_Md_arrived 58 = .ok (.iaload, 1) := by decide +kernel
theorem d_Md_arrived_59 : decode k_Md_arrived 59 = .ok (.ldc 45, 2) := by decide +kernel
theorem d_Md_arrived_61 : decode k_Md_arrived 61 = .ok (.if_icmp .ne (14), 3) := by decide +kernel
theorem d_Md_arrived_64 : decode k_Md_arrived 64 = .ok (.aload_n 0, 1) := by decide +kernel
theorem d_Md_arrived_65 : decode k_Md_arrived 65 = .ok (.getfield 59, 3) := by decide +kernel
theorem d_Md_arrived_68 : decode k_Md_arrived 68 = .ok (.iload_n 1, 1) := by decide +kernel
theorem d_Md_arrived_69 : decode k_Md_arrived 69 = .ok (.iload 4, 2) := by decide +kernel
theorem d_Md_arrived_71 : decode k_Md_arrived 71 = .ok (.iastore, 1) := by decide +kernel
theorem d_Md_arrived_72 : decode k_Md_arrived 72 = .ok (.goto (19), 3) := by decide +kernel
theorem d_Md_arrived_75 : decode k_Md_arrived 75 = .ok (.aload_n 0, 1) := by decide +kernel
theorem d_Md_arrived_76 : decode k_Md_arrived 76 = .ok (.getfield 16, 3) := by decide +kernel
theorem d_Md_arrived_79 : decode k_Md_arrived 79 = .ok (.aload_n 0, 1) := by decide +kernel
theorem d_Md_arrived_80 : decode k_Md_arrived 80 = .ok (.getfield 62, 3) := by decide +kernel
theorem d_Md_arrived_83 : decode k_Md_arrived 83 = .ok (.iload_n 1, 1) := by decide +kernel
theorem d_Md_arrived_84 : decode k_Md_arrived 84 = .ok (.iaload, 1) := by decide +kernel
theorem d_Md_arrived_85 : decode k_Md_arrived 85 = .ok (.ldc 91, 2) := by decide +kernel
theorem d_Md_arrived_87 : decode k_Md_arrived 87 = .ok (.isub, 1) := by decide +kernel
theorem d_Md_arrived_88 : decode k_Md_arrived 88 = .ok (.iload 4, 2) := by decide +kernel
theorem d_Md_arrived_90 : decode k_Md_arrived 90 = .ok (.iastore, 1) := by decide +kernel
theorem d_Md_arrived_91 : decode k_Md_arrived 91 = .ok (.aload_n 0, 1) := by decide +kernel
theorem d_Md_arrived_92 : decode k_Md_arrived 92 = .ok (.getfield 62, 3) := by decide +kernel
theorem d_Md_arrived_95 : decode k_Md_arrived 95 = .ok (.iload_n 1, 1) := by decide +kernel
theorem d_Md_arrived_96 : decode k_Md_arrived 96 = .ok (.iload 4, 2) := by decide +kernel
theorem d_Md_arrived_98 : decode k_Md_arrived 98 = .ok (.iastore, 1) := by decide +kernel
theorem d_Md_arrived_99 : decode k_Md_arrived 99 = .ok (.return_, 1) := by decide +kernel
theorem d_Md_read_0 : decode k_Md_read 0 = .ok (.iconst 0, 1) := by decide +kernel
theorem d_Md_read_1 : decode k_Md_read 1 = .ok (.istore_n 1, 1) := by decide +kernel
theorem d_Md_read_2 : decode k_Md_read 2 = .ok (.aload_n 0, 1) := by decide +kernel
theorem d_Md_read_3 : decode k_Md_read 3 = .ok (.getfield 65, 3) := by decide +kernel
theorem d_Md_read_6 : decode k_Md_read 6 = .ok (.iconst 0, 1) := by decide +kernel
theorem d_Md_read_7 : decode k_Md_read 7 = .ok (.iconst 0, 1) := by decide +kernel
theorem d_Md_read_8 : decode k_Md_read 8 = .ok (.bastore, 1) := by decide +kernel
theorem d_Md_read_9 : decode k_Md_read 9 = .ok (.aload_n 0, 1) := by decide +kernel
theorem d_Md_read_10 : decode k_Md_read 10 = .ok (.iconst 0, 1) := by decide +kernel
theorem d_Md_read_11 : decode k_Md_read 11 = .ok (.invokevirtual 142, 3) := by decide +kernel
theorem d_Md_read_14 : decode k_Md_read 14 = .ok (.istore_n 2, 1) := by decide +kernel
theorem d_Md_read_15 : decode k_Md_read 15 = .ok (.iload_n 2, 1) := by decide +kernel
theorem d_Md_read_16 : decode k_Md_read 16 = .ok (.aload_n 0, 1) := by decide +kernel
theorem d_Md_read_17 : decode k_Md_read 17 = .ok (.getfield 148, 3) := by decide +kernel
theorem d_Md_read_20 : decode k_Md_read 20 = .ok (.if_icmp .ge (114), 3) := by decide +kernel
theorem d_Md_read_23 : decode k_Md_read 23 = .ok (.aload_n 0, 1) := by decide +kernel
theorem d_Md_read_24 : decode k_Md_read 24 = .ok (.getfield 53, 3) := by decide +kernel
theorem d_Md_read_27 : decode k_Md_read 27 = .ok (.iload_n 2, 1) := by decide +kernel
theorem d_Md_read_28 : decode k_Md_read 28 = .ok (.caload, 1) := by decide +kernel
theorem d_Md_read_29 : decode k_Md_read 29 = .ok (.istore_n 3, 1) := by decide +kernel
theorem d_Md_read_30 : decode k_Md_read 30 = .ok (.iload_n 3, 1) := by decide +kernel
theorem d_Md_read_31 : decode k_Md_read 31 = .ok (.bipush 39, 2) := by decide +kernel
theorem d_Md_read_33 : decode k_Md_read 33 = .ok (.if_icmp .ne (13), 3) := by decide +kernel
theorem d_Md_read_36 : decode k_Md_read 36 = .ok (.aload_n 0, 1) := by decide +kernel
theorem d_Md_read_37 : decode k_Md_read 37 = .ok (.getfield 65, 3) := by decide +kernel
theorem d_Md_read_40 : decode k_Md_read 40 = .ok (.iload_n 1, 1) := by decide +kernel
theorem d_Md_read_41 : decode k_Md_read 41 = .ok (.iconst 1, 1) := by decide +kernel
theorem d_Md_read_42 : decode k_Md_read 42 = .ok (.bastore, 1) := by decide +kernel
theorem d_Md_read_43 : decode k_Md_read 43 = .ok (.goto (78), 3) := by decide +kernel
theorem d_Md_read_46 : decode k_Md_read 46 = .ok (.iload_n 3, 1) := by decide +kernel
theorem d_Md_read_47 : decode k_Md_read 47 = .ok (.bipush 40, 2) := by decide +kernel
theorem d_Md_read_49 : decode k_Md_read 49 = .ok (.if_icmp .ne (32), 3) := by decide +kernel
theorem d_Md_read_52 : decode k_Md_read 52 = .ok (.iinc 1 1, 3) := by decide +kernel
theorem d_Md_read_55 : decode k_Md_read 55 = .ok (.aload_n 0, 1) := by decide +kernel
theorem d_Md_read_56 : decode k_Md_read 56 = .ok (.getfield 65, 3) := by decide +kernel
theorem d_Md_read_59 : decode k_Md_read 59 = .ok (.iload_n 1, 1) := by decide +kernel
theorem d_Md_read_60 : decode k_Md_read 60 = .ok (.iconst 0, 1) := by decide +kernel
theorem d_Md_read_61 : decode k_Md_read 61 = .ok (.bastore, 1) := by decide +kernel
theorem d_Md_read_62 : decode k_Md_read 62 = .ok (.aload_n 0, 1) := by decide +kernel
theorem d_Md_read_63 : decode k_Md_read 63 = .ok (.getfield 59, 3) := by decide +kernel
theorem d_Md_read_66 : decode k_Md_read 66 = .ok (.iload_n 1, 1) := by decide +kernel
theorem d_Md_read_67 : decode k_Md_read 67 = .ok (.ldc 45, 2) := by decide +kernel
theorem d_Md_read_69 : decode k_Md_read 69 = .ok (.iastore, 1) := by decide +kernel
theorem d_Md_read_70 : decode k_Md_read 70 = .ok (.aload_n 0, 1) := by decide +kernel
theorem d_Md_read_71 : decode k_Md_read 71 = .ok (.getfield 62, 3) := by decide +kernel
theorem d_Md_read_74 : decode k_Md_read 74 = .ok (.iload_n 1, 1) := by decide +kernel
theorem d_Md_read_75 : decode k_Md_read 75 = .ok (.ldc 45, 2) := by decide +kernel
theorem d_Md_read_77 : decode k_Md_read 77 = .ok (.iastore, 1) := by decide +kernel
theorem d_Md_read_78 : decode k_Md_read 78 = .ok (.goto (43), 3) := by decide +kernel
theorem d_Md_read_81 : decode k_Md_read 81 = .ok (.iload_n 3, 1) := by decide +kernel
theorem d_Md_read_82 : decode k_Md_read 82 = .ok (.bipush 41, 2) := by decide +kernel
theorem d_Md_read_84 : decode k_Md_read 84 = .ok (.if_icmp .ne (22), 3) := by decide +kernel
theorem d_Md_read_87 : decode k_Md_read 87 = .ok (.iinc 1 (-1), 3) := by decide +kernel
theorem d_Md_read_90 : decode k_Md_read 90 = .ok (.aload_n 0, 1) := by decide +kernel
theorem d_Md_read_91 : decode k_Md_read 91 = .ok (.iload_n 1, 1) := by decide +kernel
theorem d_Md_read_92 : decode k_Md_read 92 = .ok (.aload_n 0, 1) := by decide +kernel
theorem d_Md_read_93 : decode k_Md_read 93 = .ok (.getfield 59, 3) := by decide +kernel
theorem d_Md_read_96 : decode k_Md_read 96 = .ok (.iload_n 1, 1) := by decide +kernel
theorem d_Md_read_97 : decode k_Md_read 97 = .ok (.iconst 1, 1) := by decide +kernel
theorem d_Md_read_98 : decode k_Md_read 98 = .ok (.iadd, 1) := by decide +kernel
theorem d_Md_read_99 : decode k_Md_read 99 = .ok (.iaload, 1) := by decide +kernel
theorem d_Md_read_100 : decode k_Md_read 100 = .ok (.invokevirtual 155, 3) := by decide +kernel
theorem d_Md_read_103 : decode k_Md_read 103 = .ok (.goto (18), 3) := by decide +kernel
theorem d_Md_read_106 : decode k_Md_read 106 = .ok (.aload_n 0, 1) := by decide +kernel
theorem d_Md_read_107 : decode k_Md_read 107 = .ok (.iload_n 1, 1) := by decide +kernel
theorem d_Md_read_108 : decode k_Md_read 108 = .ok (.aload_n 0, 1) := by decide +kernel
theorem d_Md_read_109 : decode k_Md_read 109 = .ok (.iload_n 2, 1) := by decide +kernel
theorem d_Md_read_110 : decode k_Md_read 110 = .ok (.aload_n 0, 1) := by decide +kernel
theorem d_Md_read_111 : decode k_Md_read 111 = .ok (.iload_n 2, 1) := by decide +kernel
theorem d_Md_read_112 : decode k_Md_read 112 = .ok (.invokevirtual 145, 3) := by decide +kernel
theorem d_Md_read_115 : decode k_Md_read 115 = .ok (.invokevirtual 159, 3) := by decide +kernel
theorem d_Md_read_118 : decode k_Md_read 118 = .ok (.invokevirtual 155, 3) := by decide +kernel
theorem d_Md_read_121 : decode k_Md_read 121 = .ok (.aload_n 0, 1) := by decide +kernel
theorem d_Md_read_122 : decode k_Md_read 122 = .ok (.aload_n 0, 1) := by decide +kernel
theorem d_Md_read_123 : decode k_Md_read 123 = .ok (.iload_n 2, 1) := by decide +kernel
theorem d_Md_read_124 : decode k_Md_read 124 = .ok (.invokevirtual 145, 3) := by decide +kernel
theorem d_Md_read_127 : decode k_Md_read 127 = .ok (.invokevirtual 142, 3) := by decide +kernel
theorem d_Md_read_130 : decode k_Md_read 130 = .ok (.istore_n 2, 1) := by decide +kernel
theorem d_Md_read_131 : decode k_Md_read 131 = .ok (.goto (-116), 3) := by decide +kernel
theorem d_Md_read_134 : decode k_Md_read 134 = .ok (.return_, 1) := by decide +kernel
theorem d_Md_reading_0 : decode k_Md_reading 0 = .ok (.aload_n 0, 1) := by decide +kernel
theorem d_Md_reading_1 : decode k_Md_reading 1 = .ok (.invokevirtual 162, 3) := by decide +kernel
theorem d_Md_reading_4 : decode k_Md_reading 4 = .ok (.istore_n 1, 1) := by decide +kernel
theorem d_Md_reading_5 : decode k_Md_reading 5 = .ok (.iload_n 1, 1) := by decide +kernel
theorem d_Md_reading_6 : decode k_Md_reading 6 = .ok (.ifCond .ne (5), 3) := by decide +kernel
theorem d_Md_reading_9 : decode k_Md_reading 9 = .ok (.iconst 2, 1) := by decide +kernel
theorem d_Md_reading_10 : decode k_Md_reading 10 = .ok (.ireturn, 1) := by decide +kernel
theorem d_Md_reading_11 : decode k_Md_reading 11 = .ok (.aload_n 0, 1) := by decide +kernel
theorem d_Md_reading_12 : decode k_Md_reading 12 = .ok (.iconst 1, 1) := by decide +kernel
theorem d_Md_reading_13 : decode k_Md_reading 13 = .ok (.putfield 165, 3) := by decide +kernel
theorem d_Md_reading_16 : decode k_Md_reading 16 = .ok (.iload_n 1, 1) := by decide +kernel
theorem d_Md_reading_17 : decode k_Md_reading 17 = .ok (.ifCond .le (7), 3) := by decide +kernel
theorem d_Md_reading_20 : decode k_Md_reading 20 = .ok (.iconst 1, 1) := by decide +kernel
theorem d_Md_reading_21 : decode k_Md_reading 21 = .ok (.goto (4), 3) := by decide +kernel
theorem d_Md_reading_24 : decode k_Md_reading 24 = .ok (.iconst 0, 1) := by decide +kernel
theorem d_Md_reading_25 : decode k_Md_reading 25 = .ok (.istore_n 2, 1) := by decide +kernel
theorem d_Md_reading_26 : decode k_Md_reading 26 = .ok (.aload_n 0, 1) := by decide +kernel
theorem d_Md_reading_27 : decode k_Md_reading 27 = .ok (.iconst 0, 1) := by decide +kernel
theorem d_Md_reading_28 : decode k_Md_reading 28 = .ok (.invokevirtual 142, 3) := by decide +kernel
theorem d_Md_reading_31 : decode k_Md_reading 31 = .ok (.istore_n 3, 1) := by decide +kernel
theorem d_Md_reading_32 : decode k_Md_reading 32 = .ok (.iload_n 3, 1) := by decide +kernel
theorem d_Md_reading_33 : decode k_Md_reading 33 = .ok (.aload_n 0, 1) := by decide +kernel
theorem d_Md_reading_34 : decode k_Md_reading 34 = .ok (.getfield 148, 3) := by decide +kernel
theorem d_Md_reading_37 : decode k_Md_reading 37 = .ok (.if_icmp .ge (51), 3) := by decide +kernel
theorem d_Md_reading_40 : decode k_Md_reading 40 = .ok (.iload_n 2, 1) := by decide +kernel
theorem d_Md_reading_41 : decode k_Md_reading 41 = .ok (.ifCond .eq (47), 3) := by decide +kernel
theorem d_Md_reading_44 : decode k_Md_reading 44 = .ok (.aload_n 0, 1) := by decide +kernel
theorem d_Md_reading_45 : decode k_Md_reading 45 = .ok (.getfield 53, 3) := by decide +kernel
theorem d_Md_reading_48 : decode k_Md_reading 48 = .ok (.iload_n 3, 1) := by decide +kernel
theorem d_Md_reading_49 : decode k_Md_reading 49 = .ok (.caload, 1) := by decide +kernel
theorem d_Md_reading_50 : decode k_Md_reading 50 = .ok (.invokestatic 118, 3) := by decide +kernel
theorem d_Md_reading_53 : decode k_Md_reading 53 = .ok (.ifCond .ne (16), 3) := by decide +kernel
theorem d_Md_reading_56 : decode k_Md_reading 56 = .ok (.aload_n 0, 1) := by decide +kernel
theorem d_Md_reading_57 : decode k_Md_reading 57 = .ok (.iload_n 3, 1) := by decide +kernel
theorem d_Md_reading_58 : decode k_Md_reading 58 = .ok (.aload_n 0, 1) := by decide +kernel
theorem d_Md_reading_59 : decode k_Md_reading 59 = .ok (.iload_n 3, 1) := by decide +kernel
theorem d_Md_reading_60 : decode k_Md_reading 60 = .ok (.invokevirtual 145, 3) := by decide +kernel
theorem d_Md_reading_63 : decode k_Md_reading 63 = .ok (.invokevirtual 168, 3) := by decide +kernel
theorem d_Md_reading_66 : decode k_Md_reading 66 = .ok (.ifCond .eq (7), 3) := by decide +kernel
theorem d_Md_reading_69 : decode k_Md_reading 69 = .ok (.iconst 1, 1) := by decide +kernel
theorem d_Md_reading_70 : decode k_Md_reading 70 = .ok (.goto (4), 3) := by decide +kernel
theorem d_Md_reading_73 : decode k_Md_reading 73 = .ok (.iconst 0, 1) := by decide +kernel
theorem d_Md_reading_74 : decode k_Md_reading 74 = .ok (.istore_n 2, 1) := by decide +kernel
theorem d_Md_reading_75 : decode k_Md_reading 75 = .ok (.aload_n 0, 1) := by decide +kernel
theorem d_Md_reading_76 : decode k_Md_reading 76 = .ok (.aload_n 0, 1) := by decide +kernel
theorem d_Md_reading_77 : decode k_Md_reading 77 = .ok (.iload_n 3, 1) := by decide +kernel
theorem d_Md_reading_78 : decode k_Md_reading 78 = .ok (.invokevirtual 145, 3) := by decide +kernel
theorem d_Md_reading_81 : decode k_Md_reading 81 = .ok (.invokevirtual 142, 3) := by decide +kernel
theorem d_Md_reading_84 : decode k_Md_reading 84 = .ok (.istore_n 3, 1) := by decide +kernel
theorem d_Md_reading_85 : decode k_Md_reading 85 = .ok (.goto (-53), 3) := by decide +kernel
theorem d_Md_reading_88 : decode k_Md_reading 88 = .ok (.iload_n 1, 1) := by decide +kernel
theorem d_Md_reading_89 : decode k_Md_reading 89 = .ok (.ifCond .ge (7), 3) := by decide +kernel
theorem d_Md_reading_92 : decode k_Md_reading 92 = .ok (.iconst (-1), 1) := by decide +kernel
theorem d_Md_reading_93 : decode k_Md_reading 93 = .ok (.goto (29), 3) := by decide +kernel
theorem d_Md_reading_96 : decode k_Md_reading 96 = .ok (.iload_n 2, 1) := by decide +kernel
theorem d_Md_reading_97 : decode k_Md_reading 97 = .ok (.ifCond .ne (8), 3) := by decide +kernel
theorem d_Md_reading_100 : decode k_Md_reading 100 = .ok (.bipush (-8), 2) := by decide +kernel
theorem d_Md_reading_102 : decode k_Md_reading 102 = .ok (.goto (20), 3) := by decide +kernel
theorem d_Md_reading_105 : decode k_Md_reading 105 = .ok (.aload_n 0, 1) := by decide +kernel
theorem d_Md_reading_106 : decode k_Md_reading 106 = .ok (.aload_n 0, 1) := by decide +kernel
theorem d_Md_reading_107 : decode k_Md_reading 107 = .ok (.getfield 139, 3) := by decide +kernel
theorem d_Md_reading_110 : decode k_Md_reading 110 = .ok (.invokevirtual 171, 3) := by decide +kernel
theorem d_Md_reading_113 : decode k_Md_reading 113 = .ok (.ifCond .eq (7), 3) := by decide +kernel
theorem d_Md_reading_116 : decode k_Md_reading 116 = .ok (.iconst 1, 1) := by decide +kernel
theorem d_Md_reading_117 : decode k_Md_reading 117 = .ok (.goto (5), 3) := by decide +kernel
theorem d_Md_reading_120 : decode k_Md_reading 120 = .ok (.bipush (-7), 2) := by decide +kernel
theorem d_Md_reading_122 : decode k_Md_reading 122 = .ok (.istore_n 3, 1) := by decide +kernel
theorem d_Md_reading_123 : decode k_Md_reading 123 = .ok (.iload_n 3, 1) := by decide +kernel
theorem d_Md_reading_124 : decode k_Md_reading 124 = .ok (.iconst 1, 1) := by decide +kernel
theorem d_Md_reading_125 : decode k_Md_reading 125 = .ok (.if_icmp .ne (7), 3) := by decide +kernel
theorem d_Md_reading_128 : decode k_Md_reading 128 = .ok (.aload_n 0, 1) := by decide +kernel
theorem d_Md_reading_129 : decode k_Md_reading 129 = .ok (.invokevirtual 174, 3) := by decide +kernel
theorem d_Md_reading_132 : decode k_Md_reading 132 = .ok (.aload_n 0, 1) := by decide +kernel
theorem d_Md_reading_133 : decode k_Md_reading 133 = .ok (.aload_n 0, 1) := by decide +kernel
theorem d_Md_reading_134 : decode k_Md_reading 134 = .ok (.getfield 148, 3) := by decide +kernel
theorem d_Md_reading_137 : decode k_Md_reading 137 = .ok (.invokevirtual 177, 3) := by decide +kernel
theorem d_Md_reading_140 : decode k_Md_reading 140 = .ok (.aload_n 0, 1) := by decide +kernel
theorem d_Md_reading_141 : decode k_Md_reading 141 = .ok (.iload_n 3, 1) := by decide +kernel
theorem d_Md_reading_142 : decode k_Md_reading 142 = .ok (.iconst 1, 1) := by decide +kernel
theorem d_Md_reading_143 : decode k_Md_reading 143 = .ok (.if_icmp .ne (7), 3) := by decide +kernel
theorem d_Md_reading_146 : decode k_Md_reading 146 = .ok (.iconst 1, 1) := by decide +kernel
theorem d_Md_reading_147 : decode k_Md_reading 147 = .ok (.goto (4), 3) := by decide +kernel
theorem d_Md_reading_150 : decode k_Md_reading 150 = .ok (.iconst 0, 1) := by decide +kernel
theorem d_Md_reading_151 : decode k_Md_reading 151 = .ok (.putfield 180, 3) := by decide +kernel
theorem d_Md_reading_154 : decode k_Md_reading 154 = .ok (.aload_n 0, 1) := by decide +kernel
theorem d_Md_reading_155 : decode k_Md_reading 155 = .ok (.iconst 0, 1) := by decide +kernel
theorem d_Md_reading_156 : decode k_Md_reading 156 = .ok (.putfield 184, 3) := by decide +kernel
theorem d_Md_reading_159 : decode k_Md_reading 159 = .ok (.iload_n 3, 1) := by decide +kernel
theorem d_Md_reading_160 : decode k_Md_reading 160 = .ok (.ireturn, 1) := by decide +kernel
theorem d_Md_push_0 : decode k_Md_push 0 = .ok (.aload_n 0, 1) := by decide +kernel
theorem d_Md_push_1 : decode k_Md_push 1 = .ok (.getfield 100, 3) := by decide +kernel
theorem d_Md_push_4 : decode k_Md_push 4 = .ok (.bipush 30, 2) := by decide +kernel
theorem d_Md_push_6 : decode k_Md_push 6 = .ok (.if_icmp .ne (6), 3) := by decide +kernel
theorem d_Md_push_9 : decode k_Md_push 9 = .ok (.bipush (-6), 2) := by decide +kernel
theorem d_Md_push_11 : decode k_Md_push 11 = .ok (.ireturn, 1) := by decide +kernel
theorem d_Md_push_12 : decode k_Md_push 12 = .ok (.aload_n 0, 1) := by decide +kernel
theorem d_Md_push_13 : decode k_Md_push 13 = .ok (.getfield 26, 3) := by decide +kernel
theorem d_Md_push_16 : decode k_Md_push 16 = .ok (.aload_n 0, 1) := by decide +kernel
theorem d_Md_push_17 : decode k_Md_push 17 = .ok (.getfield 100, 3) := by decide +kernel
theorem d_Md_push_20 : decode k_Md_push 20 = .ok (.iload_n 1, 1) := by decide +kernel
theorem d_Md_push_21 : decode k_Md_push 21 = .ok (.iastore, 1) := by decide +kernel
theorem d_Md_push_22 : decode k_Md_push 22 = .ok (.aload_n 0, 1) := by decide +kernel
theorem d_Md_push_23 : decode k_Md_push 23 = .ok (.getfield 29, 3) := by decide +kernel
theorem d_Md_push_26 : decode k_Md_push 26 = .ok (.aload_n 0, 1) := by decide +kernel
theorem d_Md_push_27 : decode k_Md_push 27 = .ok (.getfield 100, 3) := by decide +kernel
theorem d_Md_push_30 : decode k_Md_push 30 = .ok (.iload_n 2, 1) := by decide +kernel
theorem d_Md_push_31 : decode k_Md_push 31 = .ok (.iastore, 1) := by decide +kernel
theorem d_Md_push_32 : decode k_Md_push 32 = .ok (.aload_n 0, 1) := by decide +kernel
theorem d_Md_push_33 : decode k_Md_push 33 = .ok (.getfield 32, 3) := by decide +kernel
theorem d_Md_push_36 : decode k_Md_push 36 = .ok (.aload_n 0, 1) := by decide +kernel
theorem d_Md_push_37 : decode k_Md_push 37 = .ok (.getfield 100, 3) := by decide +kernel
theorem d_Md_push_40 : decode k_Md_push 40 = .ok (.iload_n 3, 1) := by decide +kernel
theorem d_Md_push_41 : decode k_Md_push 41 = .ok (.iastore, 1) := by decide +kernel
theorem d_Md_push_42 : decode k_Md_push 42 = .ok (.aload_n 0, 1) := by decide +kernel
theorem d_Md_push_43 : decode k_Md_push 43 = .ok (.getfield 35, 3) := by decide +kernel
theorem d_Md_push_46 : decode k_Md_push 46 = .ok (.aload_n 0, 1) := by decide +kernel
theorem d_Md_push_47 : decode k_Md_push 47 = .ok (.getfield 100, 3) := by decide +kernel
theorem d_Md_push_50 : decode k_Md_push 50 = .ok (.ldc 45, 2) := by decide +kernel
theorem d_Md_push_52 : decode k_Md_push 52 = .ok (.iastore, 1) := by decide +kernel
theorem d_Md_push_53 : decode k_Md_push 53 = .ok (.aload_n 0, 1) := by decide +kernel
theorem d_Md_push_54 : decode k_Md_push 54 = .ok (.dup, 1) := by decide +kernel
theorem d_Md_push_55 : decode k_Md_push 55 = .ok (.getfield 100, 3) := by decide +kernel
theorem d_Md_push_58 : decode k_Md_push 58 = .ok (.iconst 1, 1) := by decide +kernel
theorem d_Md_push_59 : decode k_Md_push 59 = .ok (.iadd, 1) := by decide +kernel
theorem d_Md_push_60 : decode k_Md_push 60 = .ok (.putfield 100, 3) := by decide +kernel
theorem d_Md_push_63 : decode k_Md_push 63 = .ok (.iconst 1, 1) := by decide +kernel
theorem d_Md_push_64 : decode k_Md_push 64 = .ok (.ireturn, 1) := by decide +kernel
theorem d_Md_give_0 : decode k_Md_give 0 = .ok (.aload_n 0, 1) := by decide +kernel
theorem d_Md_give_1 : decode k_Md_give 1 = .ok (.iload_n 1, 1) := by decide +kernel
theorem d_Md_give_2 : decode k_Md_give 2 = .ok (.putfield 46, 3) := by decide +kernel
theorem d_Md_give_5 : decode k_Md_give 5 = .ok (.aload_n 0, 1) := by decide +kernel
theorem d_Md_give_6 : decode k_Md_give 6 = .ok (.iconst 1, 1) := by decide +kernel
theorem d_Md_give_7 : decode k_Md_give 7 = .ok (.putfield 184, 3) := by decide +kernel
theorem d_Md_give_10 : decode k_Md_give 10 = .ok (.iconst 1, 1) := by decide +kernel
theorem d_Md_give_11 : decode k_Md_give 11 = .ok (.ireturn, 1) := by decide +kernel
theorem d_Md_go_0 : decode k_Md_go 0 = .ok (.aload_n 0, 1) := by decide +kernel
theorem d_Md_go_1 : decode k_Md_go 1 = .ok (.iload_n 1, 1) := by decide +kernel
theorem d_Md_go_2 : decode k_Md_go 2 = .ok (.putfield 46, 3) := by decide +kernel
theorem d_Md_go_5 : decode k_Md_go 5 = .ok (.aload_n 0, 1) := by decide +kernel
theorem d_Md_go_6 : decode k_Md_go 6 = .ok (.iload_n 2, 1) := by decide +kernel
theorem d_Md_go_7 : decode k_Md_go 7 = .ok (.putfield 50, 3) := by decide +kernel
theorem d_Md_go_10 : decode k_Md_go 10 = .ok (.aload_n 0, 1) := by decide +kernel
theorem d_Md_go_11 : decode k_Md_go 11 = .ok (.iconst 0, 1) := by decide +kernel
theorem d_Md_go_12 : decode k_Md_go 12 = .ok (.putfield 184, 3) := by decide +kernel
theorem d_Md_go_15 : decode k_Md_go 15 = .ok (.iconst 1, 1) := by decide +kernel
theorem d_Md_go_16 : decode k_Md_go 16 = .ok (.ireturn, 1) := by decide +kernel
theorem d_Md_lengthOf_0 : decode k_Md_lengthOf 0 = .ok (.iconst 0, 1) := by decide +kernel
theorem d_Md_lengthOf_1 : decode k_Md_lengthOf 1 = .ok (.istore_n 2, 1) := by decide +kernel
theorem d_Md_lengthOf_2 : decode k_Md_lengthOf 2 = .ok (.iload_n 1, 1) := by decide +kernel
theorem d_Md_lengthOf_3 : decode k_Md_lengthOf 3 = .ok (.istore_n 3, 1) := by decide +kernel
theorem d_Md_lengthOf_4 : decode k_Md_lengthOf 4 = .ok (.aload_n 0, 1) := by decide +kernel
theorem d_Md_lengthOf_5 : decode k_Md_lengthOf 5 = .ok (.iload_n 3, 1) := by decide +kernel
theorem d_Md_lengthOf_6 : decode k_Md_lengthOf 6 = .ok (.invokevirtual 187, 3) := by decide +kernel
theorem d_Md_lengthOf_9 : decode k_Md_lengthOf 9 = .ok (.ifCond .eq (15), 3) := by decide +kernel
theorem d_Md_lengthOf_12 : decode k_Md_lengthOf 12 = .ok (.iinc 2 1, 3) := by decide +kernel
theorem d_Md_lengthOf_15 : decode k_Md_lengthOf 15 = .ok (.aload_n 0, 1) := by decide +kernel
theorem d_Md_lengthOf_16 : decode k_Md_lengthOf 16 = .ok (.iload_n 3, 1) := by decide +kernel
theorem d_Md_lengthOf_17 : decode k_Md_lengthOf 17 = .ok (.invokevirtual 190, 3) := by decide +kernel
theorem d_Md_lengthOf_20 : decode k_Md_lengthOf 20 = .ok (.istore_n 3, 1) := by decide +kernel
theorem d_Md_lengthOf_21 : decode k_Md_lengthOf 21 = .ok (.goto (-17), 3) := by decide +kernel
theorem d_Md_lengthOf_24 : decode k_Md_lengthOf 24 = .ok (.iload_n 2, 1) := by decide +kernel
theorem d_Md_lengthOf_25 : decode k_Md_lengthOf 25 = .ok (.ireturn, 1) := by decide +kernel
theorem d_Md_at_0 : decode k_Md_at 0 = .ok (.iload_n 1, 1) := by decide +kernel
theorem d_Md_at_1 : decode k_Md_at 1 = .ok (.istore_n 3, 1) := by decide +kernel
theorem d_Md_at_2 : decode k_Md_at 2 = .ok (.iconst 0, 1) := by decide +kernel
theorem d_Md_at_3 : decode k_Md_at 3 = .ok (.istore 4, 2) := by decide +kernel
theorem d_Md_at_5 : decode k_Md_at 5 = .ok (.iload 4, 2) := by decide +kernel
theorem d_Md_at_7 : decode k_Md_at 7 = .ok (.iload_n 2, 1) := by decide +kernel
theorem d_Md_at_8 : decode k_Md_at 8 = .ok (.if_icmp .ge (15), 3) := by decide +kernel
theorem d_Md_at_11 : decode k_Md_at 11 = .ok (.aload_n 0, 1) := by decide +kernel
theorem d_Md_at_12 : decode k_Md_at 12 = .ok (.iload_n 3, 1) := by decide +kernel
theorem d_Md_at_13 : decode k_Md_at 13 = .ok (.invokevirtual 190, 3) := by decide +kernel
theorem d_Md_at_16 : decode k_Md_at 16 = .ok (.istore_n 3, 1) := by decide +kernel
theorem d_Md_at_17 : decode k_Md_at 17 = .ok (.iinc 4 1, 3) := by decide +kernel
theorem d_Md_at_20 : decode k_Md_at 20 = .ok (.goto (-15), 3) := by decide +kernel
theorem d_Md_at_23 : decode k_Md_at 23 = .ok (.aload_n 0, 1) := by decide +kernel
