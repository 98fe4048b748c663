theorem d_CL_feed_0 : decode k_CL_feed 0 = .ok (.aload_n 0, 1) := by decide +kernel
theorem d_CL_feed_1 : decode k_CL_feed 1 = .ok (.getfield 10, 3) := by decide +kernel
theorem d_CL_feed_4 : decode k_CL_feed 4 = .ok (.iload_n 1, 1) := by decide +kernel
theorem d_CL_feed_5 : decode k_CL_feed 5 = .ok (.iload_n 2, 1) := by decide +kernel
theorem d_CL_feed_6 : decode k_CL_feed 6 = .ok (.invokevirtual 74, 3) := by decide +kernel
theorem d_CL_feed_9 : decode k_CL_feed 9 = .ok (.ireturn, 1) := by decide +kernel
theorem d_CL_outSize_0 : decode k_CL_outSize 0 = .ok (.aload_n 0, 1) := by decide +kernel
theorem d_CL_outSize_1 : decode k_CL_outSize 1 = .ok (.getfield 19, 3) := by decide +kernel
theorem d_CL_outSize_4 : decode k_CL_outSize 4 = .ok (.getfield 82, 3) := by decide +kernel
theorem d_CL_outSize_7 : decode k_CL_outSize 7 = .ok (.ireturn, 1) := by decide +kernel
theorem d_CL_out_0 : decode k_CL_out 0 = .ok (.aload_n 0, 1) := by decide +kernel
theorem d_CL_out_1 : decode k_CL_out 1 = .ok (.getfield 19, 3) := by decide +kernel
theorem d_CL_out_4 : decode k_CL_out 4 = .ok (.iload_n 1, 1) := by decide +kernel
theorem d_CL_out_5 : decode k_CL_out 5 = .ok (.invokevirtual 86, 3) := by decide +kernel
theorem d_CL_out_8 : decode k_CL_out 8 = .ok (.ireturn, 1) := by decide +kernel
theorem d_CL_clearOut_0 : decode k_CL_clearOut 0 = .ok (.aload_n 0, 1) := by decide +kernel
theorem d_CL_clearOut_1 : decode k_CL_clearOut 1 = .ok (.getfield 19, 3) := by decide +kernel
theorem d_CL_clearOut_4 : decode k_CL_clearOut 4 = .ok (.iconst 0, 1) := by decide +kernel
theorem d_CL_clearOut_5 : decode k_CL_clearOut 5 = .ok (.putfield 82, 3) := by decide +kernel
theorem d_CL_clearOut_8 : decode k_CL_clearOut 8 = .ok (.return_, 1) := by decide +kernel
theorem d_CL_liveCells_0 : decode k_CL_liveCells 0 = .ok (.aload_n 0, 1) := by decide +kernel
theorem d_CL_liveCells_1 : decode k_CL_liveCells 1 = .ok (.getfield 51, 3) := by decide +kernel
theorem d_CL_liveCells_4 : decode k_CL_liveCells 4 = .ok (.invokevirtual 90, 3) := by decide +kernel
theorem d_CL_liveCells_7 : decode k_CL_liveCells 7 = .ok (.aload_n 0, 1) := by decide +kernel
theorem d_CL_liveCells_8 : decode k_CL_liveCells 8 = .ok (.getfield 51, 3) := by decide +kernel
theorem d_CL_liveCells_11 : decode k_CL_liveCells 11 = .ok (.getfield 93, 3) := by decide +kernel
theorem d_CL_liveCells_14 : decode k_CL_liveCells 14 = .ok (.ireturn, 1) := by decide +kernel
theorem d_CL_count_0 : decode k_CL_count 0 = .ok (.iload_n 1, 1) := by decide +kernel
theorem d_CL_count_1 : decode k_CL_count 1 = .ok (.tableswitch (63) (0) (3) #[31, 39, 47, 55], 31) := by decide +kernel
theorem d_CL_count_32 : decode k_CL_count 32 = .ok (.aload_n 0, 1) := by decide +kernel
theorem d_CL_count_33 : decode k_CL_count 33 = .ok (.getfield 10, 3) := by decide +kernel
theorem d_CL_count_36 : decode k_CL_count 36 = .ok (.getfield 96, 3) := by decide +kernel
theorem d_CL_count_39 : decode k_CL_count 39 = .ok (.ireturn, 1) := by decide +kernel
theorem d_CL_count_40 : decode k_CL_count 40 = .ok (.aload_n 0, 1) := by decide +kernel
theorem d_CL_count_41 : decode k_CL_count 41 = .ok (.getfield 33, 3) := by decide +kernel
theorem d_CL_count_44 : decode k_CL_count 44 = .ok (.getfield 97, 3) := by decide +kernel
theorem d_CL_count_47 : decode k_CL_count 47 = .ok (.ireturn, 1) := by decide +kernel
theorem d_CL_count_48 : decode k_CL_count 48 = .ok (.aload_n 0, 1) := by decide +kernel
theorem d_CL_count_49 : decode k_CL_count 49 = .ok (.getfield 26, 3) := by decide +kernel
theorem d_CL_count_52 : decode k_CL_count 52 = .ok (.getfield 100, 3) := by decide +kernel
theorem d_CL_count_55 : decode k_CL_count 55 = .ok (.ireturn, 1) := by decide +kernel
theorem d_CL_count_56 : decode k_CL_count 56 = .ok (.aload_n 0, 1) := by decide +kernel
theorem d_CL_count_57 : decode k_CL_count 57 = .ok (.getfield 70, 3) := by decide +kernel
theorem d_CL_count_60 : decode k_CL_count 60 = .ok (.getfield 103, 3) := by decide +kernel
theorem d_CL_count_63 : decode k_CL_count 63 = .ok (.ireturn, 1) := by decide +kernel
theorem d_CL_count_64 : decode k_CL_count 64 = .ok (.iconst (-1), 1) := by decide +kernel
theorem d_CL_count_65 : decode k_CL_count 65 = .ok (.ireturn, 1) := by decide +kernel
theorem d_Text_append_0 : decode k_Text_append 0 = .ok (.iload_n 2, 1) := by decide +kernel
theorem d_Text_append_1 : decode k_Text_append 1 = .ok (.iconst 1, 1) := by decide +kernel
theorem d_Text_append_2 : decode k_Text_append 2 = .ok (.if_icmp .lt (19), 3) := by decide +kernel
theorem d_Text_append_5 : decode k_Text_append 5 = .ok (.iload_n 2, 1) := by decide +kernel
theorem d_Text_append_6 : decode k_Text_append 6 = .ok (.iconst 4, 1) := by decide +kernel
theorem d_Text_append_7 : decode k_Text_append 7 = .ok (.if_icmp .gt (14), 3) := by decide +kernel
theorem d_Text_append_10 : decode k_Text_append 10 = .ok (.aload_n 0, 1) := by decide +kernel
theorem d_Text_append_11 : decode k_Text_append 11 = .ok (.getfield 13, 3) := by decide +kernel
theorem d_Text_append_14 : decode k_Text_append 14 = .ok (.iload_n 2, 1) := by decide +kernel
theorem d_Text_append_15 : decode k_Text_append 15 = .ok (.iadd, 1) := by decide +kernel
theorem d_Text_append_16 : decode k_Text_append 16 = .ok (.bipush 120, 2) := by decide +kernel
theorem d_Text_append_18 : decode k_Text_append 18 = .ok (.if_icmp .le (5), 3) := by decide +kernel
theorem d_Text_append_21 : decode k_Text_append 21 = .ok (.iconst 0, 1) := by decide +kernel
theorem d_Text_append_22 : decode k_Text_append 22 = .ok (.ireturn, 1) := by decide +kernel
theorem d_Text_append_23 : decode k_Text_append 23 = .ok (.iconst 0, 1) := by decide +kernel
theorem d_Text_append_24 : decode k_Text_append 24 = .ok (.istore_n 3, 1) := by decide +kernel
theorem d_Text_append_25 : decode k_Text_append 25 = .ok (.iload_n 3, 1) := by decide +kernel
theorem d_Text_append_26 : decode k_Text_append 26 = .ok (.iload_n 2, 1) := by decide +kernel
theorem d_Text_append_27 : decode k_Text_append 27 = .ok (.if_icmp .ge (27), 3) := by decide +kernel
theorem d_Text_append_30 : decode k_Text_append 30 = .ok (.iload_n 1, 1) := by decide +kernel
theorem d_Text_append_31 : decode k_Text_append 31 = .ok (.bipush 8, 2) := by decide +kernel
theorem d_Text_append_33 : decode k_Text_append 33 = .ok (.iload_n 3, 1) := by decide +kernel
theorem d_Text_append_34 : decode k_Text_append 34 = .ok (.imul, 1) := by decide +kernel
theorem d_Text_append_35 : decode k_Text_append 35 = .ok (.iushr, 1) := by decide +kernel
theorem d_Text_append_36 : decode k_Text_append 36 = .ok (.sipush 255, 3) := by decide +kernel
theorem d_Text_append_39 : decode k_Text_append 39 = .ok (.iand, 1) := by decide +kernel
theorem d_Text_append_40 : decode k_Text_append 40 = .ok (.invokestatic 17, 3) := by decide +kernel
theorem d_Text_append_43 : decode k_Text_append 43 = .ok (.ifCond .ne (5), 3) := by decide +kernel
theorem d_Text_append_46 : decode k_Text_append 46 = .ok (.iconst 0, 1) := by decide +kernel
theorem d_Text_append_47 : decode k_Text_append 47 = .ok (.ireturn, 1) := by decide +kernel
theorem d_Text_append_48 : decode k_Text_append 48 = .ok (.iinc 3 1, 3) := by decide +kernel
theorem d_Text_append_51 : decode k_Text_append 51 = .ok (.goto (-26), 3) := by decide +kernel
theorem d_Text_append_54 : decode k_Text_append 54 = .ok (.iload_n 2, 1) := by decide +kernel
theorem d_Text_append_55 : decode k_Text_append 55 = .ok (.iconst 1, 1) := by decide +kernel
theorem d_Text_append_56 : decode k_Text_append 56 = .ok (.isub, 1) := by decide +kernel
theorem d_Text_append_57 : decode k_Text_append 57 = .ok (.istore_n 3, 1) := by decide +kernel
theorem d_Text_append_58 : decode k_Text_append 58 = .ok (.iload_n 3, 1) := by decide +kernel
theorem d_Text_append_59 : decode k_Text_append 59 = .ok (.ifCond .lt (48), 3) := by decide +kernel
theorem d_Text_append_62 : decode k_Text_append 62 = .ok (.aload_n 0, 1) := by decide +kernel
theorem d_Text_append_63 : decode k_Text_append 63 = .ok (.getfield 13, 3) := by decide +kernel
theorem d_Text_append_66 : decode k_Text_append 66 = .ok (.bipush 120, 2) := by decide +kernel
theorem d_Text_append_68 : decode k_Text_append 68 = .ok (.if_icmp .ge (39), 3) := by decide +kernel
theorem d_Text_append_71 : decode k_Text_append 71 = .ok (.aload_n 0, 1) := by decide +kernel
theorem d_Text_append_72 : decode k_Text_append 72 = .ok (.getfield 9, 3) := by decide +kernel
theorem d_Text_append_75 : decode k_Text_append 75 = .ok (.aload_n 0, 1) := by decide +kernel
theorem d_Text_append_76 : decode k_Text_append 76 = .ok (.getfield 13, 3) := by decide +kernel
theorem d_Text_append_79 : decode k_Text_append 79 = .ok (.iload_n 1, 1) := by decide +kernel
theorem d_Text_append_80 : decode k_Text_append 80 = .ok (.bipush 8, 2) := by decide +kernel
theorem d_Text_append_82 : decode k_Text_append 82 = .ok (.iload_n 3, 1) := by decide +kernel
theorem d_Text_append_83 : decode k_Text_append 83 = .ok (.imul, 1) := by decide +kernel
theorem d_Text_append_84 : decode k_Text_append 84 = .ok (.iushr, 1) := by decide +kernel
theorem d_Text_append_85 : decode k_Text_append 85 = .ok (.sipush 255, 3) := by decide +kernel
theorem d_Text_append_88 : decode k_Text_append 88 = .ok (.iand, 1) := by decide +kernel
theorem d_Text_append_89 : decode k_Text_append 89 = .ok (.i2c, 1) := by decide +kernel
theorem d_Text_append_90 : decode k_Text_append 90 = .ok (.castore, 1) := by decide +kernel
theorem d_Text_append_91 : decode k_Text_append 91 = .ok (.aload_n 0, 1) := by decide +kernel
theorem d_Text_append_92 : decode k_Text_append 92 = .ok (.dup, 1) := by decide +kernel
theorem d_Text_append_93 : decode k_Text_append 93 = .ok (.getfield 13, 3) := by decide +kernel
theorem d_Text_append_96 : decode k_Text_append 96 = .ok (.iconst 1, 1) := by decide +kernel
theorem d_Text_append_97 : decode k_Text_append 97 = .ok (.iadd, 1) := by decide +kernel
theorem d_Text_append_98 : decode k_Text_append 98 = .ok (.putfield 13, 3) := by decide +kernel
theorem d_Text_append_101 : decode k_Text_append 101 = .ok (.iinc 3 (-1), 3) := by decide +kernel
theorem d_Text_append_104 : decode k_Text_append 104 = .ok (.goto (-46), 3) := by decide +kernel
theorem d_Text_append_107 : decode k_Text_append 107 = .ok (.iconst 1, 1) := by decide +kernel
theorem d_Text_append_108 : decode k_Text_append 108 = .ok (.ireturn, 1) := by decide +kernel
theorem d_Text_at_0 : decode k_Text_at 0 = .ok (.iload_n 1, 1) := by decide +kernel
theorem d_Text_at_1 : decode k_Text_at 1 = .ok (.ifCond .lt (20), 3) := by decide +kernel
theorem d_Text_at_4 : decode k_Text_at 4 = .ok (.iload_n 1, 1) := by decide +kernel
theorem d_Text_at_5 : decode k_Text_at 5 = .ok (.aload_n 0, 1) := by decide +kernel
theorem d_Text_at_6 : decode k_Text_at 6 = .ok (.getfield 13, 3) := by decide +kernel
theorem d_Text_at_9 : decode k_Text_at 9 = .ok (.if_icmp .ge (12), 3) := by decide +kernel
theorem d_Text_at_12 : decode k_Text_at 12 = .ok (.aload_n 0, 1) := by decide +kernel
theorem d_Text_at_13 : decode k_Text_at 13 = .ok (.getfield 9, 3) := by decide +kernel
theorem d_Text_at_16 : decode k_Text_at 16 = .ok (.iload_n 1, 1) := by decide +kernel
theorem d_Text_at_17 : decode k_Text_at 17 = .ok (.caload, 1) := by decide +kernel
theorem d_Text_at_18 : decode k_Text_at 18 = .ok (.goto (5), 3) := by decide +kernel
theorem d_Text_at_21 : decode k_Text_at 21 = .ok (.bipush 32, 2) := by decide +kernel
theorem d_Text_at_23 : decode k_Text_at 23 = .ok (.ireturn, 1) := by decide +kernel
theorem d_Text_drop_0 : decode k_Text_drop 0 = .ok (.iconst 0, 1) := by decide +kernel
theorem d_Text_drop_1 : decode k_Text_drop 1 = .ok (.iload_n 1, 1) := by decide +kernel
theorem d_Text_drop_2 : decode k_Text_drop 2 = .ok (.aload_n 0, 1) := by decide +kernel
theorem d_Text_drop_3 : decode k_Text_drop 3 = .ok (.getfield 13, 3) := by decide +kernel
theorem d_Text_drop_6 : decode k_Text_drop 6 = .ok (.invokestatic 21, 3) := by decide +kernel
theorem d_Text_drop_9 : decode k_Text_drop 9 = .ok (.invokestatic 27, 3) := by decide +kernel
theorem d_Text_drop_12 : decode k_Text_drop 12 = .ok (.istore_n 2, 1) := by decide +kernel
theorem d_Text_drop_13 : decode k_Text_drop 13 = .ok (.iload_n 2, 1) := by decide +kernel
theorem d_Text_drop_14 : decode k_Text_drop 14 = .ok (.istore_n 3, 1) := by decide +kernel
theorem d_Text_drop_15 : decode k_Text_drop 15 = .ok (.iload_n 3, 1) := by decide +kernel
theorem d_Text_drop_16 : decode k_Text_drop 16 = .ok (.aload_n 0, 1) := by decide +kernel
theorem d_Text_drop_17 : decode k_Text_drop 17 = .ok (.getfield 13, 3) := by decide +kernel
theorem d_Text_drop_20 : decode k_Text_drop 20 = .ok (.if_icmp .ge (23), 3) := by decide +kernel
theorem d_Text_drop_23 : decode k_Text_drop 23 = .ok (.aload_n 0, 1) := by decide +kernel
theorem d_Text_drop_24 : decode k_Text_drop 24 = .ok (.getfield 9, 3) := by decide +kernel
theorem d_Text_drop_27 : decode k_Text_drop 27 = .ok (.iload_n 3, 1) := by decide +kernel
theorem d_Text_drop_28 : decode k_Text_drop 28 = .ok (.iload_n 2, 1) := by decide +kernel
theorem d_Text_drop_29 : decode k_Text_drop 29 = .ok (.isub, 1) := by decide +kernel
theorem d_Text_drop_30 : decode k_Text_drop 30 = .ok (.aload_n 0, 1) := by decide +kernel
theorem d_Text_drop_31 : decode k_Text_drop 31 = .ok (.getfield 9, 3) := by decide +kernel
theorem d_Text_drop_34 : decode k_Text_drop 34 = .ok (.iload_n 3, 1) := by decide +kernel
theorem d_Text_drop_35 : decode k_Text_drop 35 = .ok (.caload, 1) := by decide +kernel
theorem d_Text_drop_36 : decode k_Text_drop 36 = .ok (.castore, 1) := by decide +kernel
theorem d_Text_drop_37 : decode k_Text_drop 37 = .ok (.iinc 3 1, 3) := by decide +kernel
theorem d_Text_drop_40 : decode k_Text_drop 40 = .ok (.goto (-25), 3) := by decide +kernel
theorem d_Text_drop_43 : decode k_Text_drop 43 = .ok (.aload_n 0, 1) := by decide +kernel
theorem d_Text_drop_44 : decode k_Text_drop 44 = .ok (.dup, 1) := by decide +kernel
theorem d_Text_drop_45 : decode k_Text_drop 45 = .ok (.getfield 13, 3) := by decide +kernel
theorem d_Text_drop_48 : decode k_Text_drop 48 = .ok (.iload_n 2, 1) := by decide +kernel
theorem d_Text_drop_49 : decode k_Text_drop 49 = .ok (.isub, 1) := by decide +kernel
theorem d_Text_drop_50 : decode k_Text_drop 50 = .ok (.putfield 13, 3) := by decide +kernel
theorem d_Text_drop_53 : decode k_Text_drop 53 = .ok (.return_, 1) := by decide +kernel
theorem d_Text_pieceEnd_0 : decode k_Text_pieceEnd 0 = .ok (.iload_n 1, 1) := by decide +kernel
theorem d_Text_pieceEnd_1 : decode k_Text_pieceEnd 1 = .ok (.iconst 1, 1) := by decide +kernel
theorem d_Text_pieceEnd_2 : decode k_Text_pieceEnd 2 = .ok (.iadd, 1) := by decide +kernel
theorem d_Text_pieceEnd_3 : decode k_Text_pieceEnd 3 = .ok (.istore_n 2, 1) := by decide +kernel
theorem d_Text_pieceEnd_4 : decode k_Text_pieceEnd 4 = .ok (.aload_n 0, 1) := by decide +kernel
theorem d_Text_pieceEnd_5 : decode k_Text_pieceEnd 5 = .ok (.iload_n 1, 1) := by decide +kernel
theorem d_Text_pieceEnd_6 : decode k_Text_pieceEnd 6 = .ok (.invokevirtual 30, 3) := by decide +kernel
theorem d_Text_pieceEnd_9 : decode k_Text_pieceEnd 9 = .ok (.invokestatic 34, 3) := by decide +kernel
theorem d_Text_pieceEnd_12 : decode k_Text_pieceEnd 12 = .ok (.ifCond .eq (28), 3) := by decide +kernel
theorem d_Text_pieceEnd_15 : decode k_Text_pieceEnd 15 = .ok (.iload_n 2, 1) := by decide +kernel
theorem d_Text_pieceEnd_16 : decode k_Text_pieceEnd 16 = .ok (.aload_n 0, 1) := by decide +kernel
theorem d_Text_pieceEnd_17 : decode k_Text_pieceEnd 17 = .ok (.getfield 13, 3) := by decide +kernel
theorem d_Text_pieceEnd_20 : decode k_Text_pieceEnd 20 = .ok (.if_icmp .ge (20), 3) := by decide +kernel
theorem d_Text_pieceEnd_23 : decode k_Text_pieceEnd 23 = .ok (.aload_n 0, 1) := by decide +kernel
theorem d_Text_pieceEnd_24 : decode k_Text_pieceEnd 24 = .ok (.iload_n 2, 1) := by decide +kernel
theorem d_Text_pieceEnd_25 : decode k_Text_pieceEnd 25 = .ok (.invokevirtual 30, 3) := by decide +kernel
theorem d_Text_pieceEnd_28 : decode k_Text_pieceEnd 28 = .ok (.invokestatic 34, 3) := by decide +kernel
theorem d_Text_pieceEnd_31 : decode k_Text_pieceEnd 31 = .ok (.ifCond .eq (9), 3) := by decide +kernel
theorem d_Text_pieceEnd_34 : decode k_Text_pieceEnd 34 = .ok (.iinc 2 1, 3) := by decide +kernel
theorem d_Text_pieceEnd_37 : decode k_Text_pieceEnd 37 = .ok (.goto (-22), 3) := by decide +kernel
theorem d_Text_pieceEnd_40 : decode k_Text_pieceEnd 40 = .ok (.iload_n 2, 1) := by decide +kernel
theorem d_Text_pieceEnd_41 : decode k_Text_pieceEnd 41 = .ok (.ireturn, 1) := by decide +kernel
theorem d_Text_isNumber_0 : decode k_Text_isNumber 0 = .ok (.aload_n 0, 1) := by decide +kernel
theorem d_Text_isNumber_1 : decode k_Text_isNumber 1 = .ok (.iload_n 1, 1) := by decide +kernel
theorem d_Text_isNumber_2 : decode k_Text_isNumber 2 = .ok (.invokevirtual 30, 3) := by decide +kernel
theorem d_Text_isNumber_5 : decode k_Text_isNumber 5 = .ok (.bipush 45, 2) := by decide +kernel
theorem d_Text_isNumber_7 : decode k_Text_isNumber 7 = .ok (.if_icmp .ne (9), 3) := by decide +kernel
theorem d_Text_isNumber_10 : decode k_Text_isNumber 10 = .ok (.iload_n 1, 1) := by decide +kernel
theorem d_Text_isNumber_11 : decode k_Text_isNumber 11 = .ok (.iconst 1, 1) := by decide +kernel
theorem d_Text_isNumber_12 : decode k_Text_isNumber 12 = .ok (.iadd, 1) := by decide +kernel
theorem d_Text_isNumber_13 : decode k_Text_isNumber 13 = .ok (.goto (4), 3) := by decide +kernel
theorem d_Text_isNumber_16 : decode k_Text_isNumber 16 = .ok (.iload_n 1, 1) := by decide +kernel
theorem d_Text_isNumber_17 : decode k_Text_isNumber 17 = .ok (.istore_n 3, 1) := by decide +kernel
theorem d_Text_isNumber_18 : decode k_Text_isNumber 18 = .ok (.iload_n 2, 1) := by decide +kernel
theorem d_Text_isNumber_19 : decode k_Text_isNumber 19 = .ok (.iload_n 3, 1) := by decide +kernel
theorem d_Text_isNumber_20 : decode k_Text_isNumber 20 = .ok (.isub, 1) := by decide +kernel
theorem d_Text_isNumber_21 : decode k_Text_isNumber 21 = .ok (.iconst 1, 1) := by decide +kernel
theorem d_Text_isNumber_22 : decode k_Text_isNumber 22 = .ok (.if_icmp .lt (11), 3) := by decide +kernel
theorem d_Text_isNumber_25 : decode k_Text_isNumber 25 = .ok (.iload_n 2, 1) := by decide +kernel
theorem d_Text_isNumber_26 : decode k_Text_isNumber 26 = .ok (.iload_n 3, 1) := by decide +kernel
theorem d_Text_isNumber_27 : decode k_Text_isNumber 27 = .ok (.isub, 1) := by decide +kernel
theorem d_Text_isNumber_28 : decode k_Text_isNumber 28 = .ok (.bipush 9, 2) := by decide +kernel
theorem d_Text_isNumber_30 : decode k_Text_isNumber 30 = .ok (.if_icmp .le (5), 3) := by decide +kernel
theorem d_Text_isNumber_33 : decode k_Text_isNumber 33 = .ok (.iconst 0, 1) := by decide +kernel
theorem d_Text_isNumber_34 : decode k_Text_isNumber 34 = .ok (.ireturn, 1) := by decide +kernel
theorem d_Text_isNumber_35 : decode k_Text_isNumber 35 = .ok (.iload_n 3, 1) := by decide +kernel
theorem d_Text_isNumber_36 : decode k_Text_isNumber 36 = .ok (.istore 4, 2) := by decide +kernel
theorem d_Text_isNumber_38 : decode k_Text_isNumber 38 = .ok (.iload 4, 2) := by decide +kernel
theorem d_Text_isNumber_40 : decode k_Text_isNumber 40 = .ok (.iload_n 2, 1) := by decide +kernel
theorem d_Text_isNumber_41 : decode k_Text_isNumber 41 = .ok (.if_icmp .ge (33), 3) := by decide +kernel
theorem d_Text_isNumber_44 : decode k_Text_isNumber 44 = .ok (.aload_n 0, 1) := by decide +kernel
theorem d_Text_isNumber_45 : decode k_Text_isNumber 45 = .ok (.iload 4, 2) := by decide +kernel
theorem d_Text_isNumber_47 : decode k_Text_isNumber 47 = .ok (.invokevirtual 30, 3) := by decide +kernel
theorem d_Text_isNumber_50 : decode k_Text_isNumber 50 = .ok (.bipush 48, 2) := by decide +kernel
theorem d_Text_isNumber_52 : decode k_Text_isNumber 52 = .ok (.if_icmp .lt (14), 3) := by decide +kernel
theorem d_Text_isNumber_55 : decode k_Text_isNumber 55 = .ok (.aload_n 0, 1) := by decide +kernel
theorem d_Text_isNumber_56 : decode k_Text_isNumber 56 = .ok (.iload 4, 2) := by decide +kernel
theorem d_Text_isNumber_58 : decode k_Text_isNumber 58 = .ok (.invokevirtual 30, 3) := by decide +kernel
theorem d_Text_isNumber_61 : decode k_Text_isNumber 61 = .ok (.bipush 57, 2) := by decide +kernel
theorem d_Text_isNumber_63 : decode k_Text_isNumber 63 = .ok (.if_icmp .le (5), 3) := by decide +kernel
theorem d_Text_isNumber_66 : decode k_Text_isNumber 66 = .ok (.iconst 0, 1) := by decide +kernel
theorem d_Text_isNumber_67 : decode k_Text_isNumber 67 = .ok (.ireturn, 1) := by decide +kernel
theorem d_Text_isNumber_68 : decode k_Text_isNumber 68 = .ok (.iinc 4 1, 3) := by decide +kernel
theorem d_Text_isNumber_71 : decode k_Text_isNumber 71 = .ok (.goto (-33), 3) := by decide +kernel
theorem d_Text_isNumber_74 : decode k_Text_isNumber 74 = .ok (.iconst 1, 1) := by decide +kernel
theorem d_Text_isNumber_75 : decode k_Text_isNumber 75 = .ok (.ireturn, 1) := by decide +kernel
theorem d_Text_number_0 : decode k_Text_number 0 = .ok (.aload_n 0, 1) := by decide +kernel
theorem d_Text_number_1 : decode k_Text_number 1 = .ok (.iload_n 1, 1) := by decide +kernel
theorem d_Text_number_2 : decode k_Text_number 2 = .ok (.invokevirtual 30, 3) := by decide +kernel
theorem d_Text_number_5 : decode k_Text_number 5 = .ok (.bipush 45, 2) := by decide +kernel
theorem d_Text_number_7 : decode k_Text_number 7 = .ok (.if_icmp .ne (7), 3) := by decide +kernel
theorem d_Text_number_10 : decode k_Text_number 10 = .ok (.iconst 1, 1) := by decide +kernel
theorem d_Text_number_11 : decode k_Text_number 11 = .ok (.goto (4), 3) := by decide +kernel
theorem d_Text_number_14 : decode k_Text_number 14 = .ok (.iconst 0, 1) := by decide +kernel
theorem d_Text_number_15 : decode k_Text_number 15 = .ok (.istore_n 3, 1) := by decide +kernel
theorem d_Text_number_16 : decode k_Text_number 16 = .ok (.iconst 0, 1) := by decide +kernel
theorem d_Text_number_17 : decode k_Text_number 17 = .ok (.istore 4, 2) := by decide +kernel
theorem d_Text_number_19 : decode k_Text_number 19 = .ok (.iload_n 3, 1) := by decide +kernel
theorem d_Text_number_20 : decode k_Text_number 20 = .ok (.ifCond .eq (9), 3) := by decide +kernel
theorem d_Text_number_23 : decode k_Text_number 23 = .ok (.iload_n 1, 1) := by decide +kernel
theorem d_Text_number_24 : decode k_Text_number 24 = .ok (.iconst 1, 1) := by decide +kernel
theorem d_Text_number_25 : decode k_Text_number 25 = .ok (.iadd, 1) := by decide +kernel
theorem d_Text_number_26 : decode k_Text_number 26 = .ok (.goto (4), 3) := by decide +kernel
theorem d_Text_number_29 : decode k_Text_number 29 = .ok (.iload_n 1, 1) := by decide +kernel
theorem d_Text_number_30 : decode k_Text_number 30 = .ok (.istore 5, 2) := by decide +kernel
theorem d_Text_number_32 : decode k_Text_number 32 = .ok (.iload 5, 2) := by decide +kernel
theorem d_Text_number_34 : decode k_Text_number 34 = .ok (.iload_n 2, 1) := by decide +kernel
theorem d_Text_number_35 : decode k_Text_number 35 = .ok (.if_icmp .ge (26), 3) := by decide +kernel
theorem d_Text_number_38 : decode k_Text_number 38 = .ok (.bipush 10, 2) := by decide +kernel
theorem d_Text_number_40 : decode k_Text_number 40 = .ok (.iload 4, 2) := by decide +kernel
theorem d_Text_number_42 : decode k_Text_number 42 = .ok (.imul, 1) := by decide +kernel
theorem d_Text_number_43 : decode k_Text_number 43 = .ok (.aload_n 0, 1) := by decide +kernel
theorem d_Text_number_44 : decode k_Text_number 44 = .ok (.iload 5, 2) := by decide +kernel
theorem d_Text_number_46 : decode k_Text_number 46 = .ok (.invokevirtual 30, 3) := by decide +kernel
theorem d_Text_number_49 : decode k_Text_number 49 = .ok (.bipush 48, 2) := by decide +kernel
theorem d_Text_number_51 : decode k_Text_number 51 = .ok (.isub, 1) := by decide +kernel
theorem d_Text_number_52 : decode k_Text_number 52 = .ok (.iadd, 1) := by decide +kernel
theorem d_Text_number_53 : decode k_Text_number 53 = .ok (.istore 4, 2) := by decide +kernel
theorem d_Text_number_55 : decode k_Text_number 55 = .ok (.iinc 5 1, 3) := by decide +kernel
theorem d_Text_number_58 : decode k_Text_number 58 = .ok (.goto (-26), 3) := by decide +kernel
theorem d_Text_number_61 : decode k_Text_number 61 = .ok (.iload_n 3, 1) := by decide +kernel
theorem d_Text_number_62 : decode k_Text_number 62 = .ok (.ifCond .eq (9), 3) := by decide +kernel
theorem d_Text_number_65 : decode k_Text_number 65 = .ok (.iload 4, 2) := by decide +kernel
theorem d_Text_number_67 : decode k_Text_number 67 = .ok (.ineg, 1) := by decide +kernel
theorem d_Text_number_68 : decode k_Text_number 68 = .ok (.goto (5), 3) := by decide +kernel
theorem d_Text_number_71 : decode k_Text_number 71 = .ok (.iload 4, 2) := by decide +kernel
theorem d_Text_number_73 : decode k_Text_number 73 = .ok (.ireturn, 1) := by decide +kernel
theorem d_Text_name_0 : decode k_Text_name 0 = .ok (.lconst 0, 1) := by decide +kernel
theorem d_Text_name_1 : decode k_Text_name 1 = .ok (.lstore_n 3, 1) := by decide +kernel
theorem d_Text_name_2 : decode k_Text_name 2 = .ok (.iload_n 1, 1) := by decide +kernel
theorem d_Text_name_3 : decode k_Text_name 3 = .ok (.istore 5, 2) := by decide +kernel
theorem d_Text_name_5 : decode k_Text_name 5 = .ok (.iload 5, 2) := by decide +kernel
theorem d_Text_name_7 : decode k_Text_name 7 = .ok (.iload_n 2, 1) := by decide +kernel
theorem d_Text_name_8 : decode k_Text_name 8 = .ok (.if_icmp .ge (31), 3) := by decide +kernel
theorem d_Text_name_11 : decode k_Text_name 11 = .ok (.iload 5, 2) := by decide +kernel
theorem d_Text_name_13 : decode k_Text_name 13 = .ok (.iload_n 1, 1) := by decide +kernel
theorem d_Text_name_14 : decode k_Text_name 14 = .ok (.bipush 8, 2) := by decide +kernel
theorem d_Text_name_16 : decode k_Text_name 16 = .ok (.iadd, 1) := by decide +kernel
theorem d_Text_name_17 : decode k_Text_name 17 = .ok (.if_icmp .ge (22), 3) := by decide +kernel
theorem d_Text_name_20 : decode k_Text_name 20 = .ok (.lload_n 3, 1) := by decide +kernel
theorem d_Text_name_21 : decode k_Text_name 21 = .ok (.bipush 8, 2) := by decide +kernel
theorem d_Text_name_23 : decode k_Text_name 23 = .ok (.lshl, 1) := by decide +kernel
theorem d_Text_name_24 : decode k_Text_name 24 = .ok (.aload_n 0, 1) := by decide +kernel
theorem d_Text_name_25 : decode k_Text_name 25 = .ok (.iload 5, 2) := by decide +kernel
theorem d_Text_name_27 : decode k_Text_name 27 = .ok (.invokevirtual 30, 3) := by decide +kernel
theorem d_Text_name_30 : decode k_Text_name 30 = .ok (.i2l, 1) := by decide +kernel
theorem d_Text_name_31 : decode k_Text_name 31 = .ok (.lor, 1) := by decide +kernel
theorem d_Text_name_32 : decode k_Text_name 32 = .ok (.lstore_n 3, 1) := by decide +kernel
theorem d_Text_name_33 : decode k_Text_name 33 = .ok (.iinc 5 1, 3) := by decide +kernel
theorem d_Text_name_36 : decode k_Text_name 36 = .ok (.goto (-31), 3) := by decide +kernel
theorem d_Text_name_39 : decode k_Text_name 39 = .ok (.lload_n 3, 1) := by decide +kernel
theorem d_Text_name_40 : decode k_Text_name 40 = .ok (.lreturn, 1) := by decide +kernel
theorem d_Text_isBlank_0 : decode k_Text_isBlank 0 = .ok (.iload_n 0, 1) := by decide +kernel
theorem d_Text_isBlank_1 : decode k_Text_isBlank 1 = .ok (.bipush 10, 2) := by decide +kernel
theorem d_Text_isBlank_3 : decode k_Text_isBlank 3 = .ok (.if_icmp .eq (9), 3) := by decide +kernel
theorem d_Text_isBlank_6 : decode k_Text_isBlank 6 = .ok (.iload_n 0, 1) := by decide +kernel
theorem d_Text_isBlank_7 : decode k_Text_isBlank 7 = .ok (.bipush 32, 2) := by decide +kernel
theorem d_Text_isBlank_9 : decode k_Text_isBlank 9 = .ok (.if_icmp .ne (7), 3) := by decide +kernel
theorem d_Text_isBlank_12 : decode k_Text_isBlank 12 = .ok (.iconst 1, 1) := by decide +kernel
theorem d_Text_isBlank_13 : decode k_Text_isBlank 13 = .ok (.goto (4), 3) := by decide +kernel
theorem d_Text_isBlank_16 : decode k_Text_isBlank 16 = .ok (.iconst 0, 1) := by decide +kernel
theorem d_Text_isBlank_17 : decode k_Text_isBlank 17 = .ok (.ireturn, 1) := by decide +kernel
theorem d_Text_isOfWord_0 : decode k_Text_isOfWord 0 = .ok (.iload_n 0, 1) := by decide +kernel
theorem d_Text_isOfWord_1 : decode k_Text_isOfWord 1 = .ok (.invokestatic 38, 3) := by decide +kernel
theorem d_Text_isOfWord_4 : decode k_Text_isOfWord 4 = .ok (.ifCond .ne (25), 3) := by decide +kernel
theorem d_Text_isOfWord_7 : decode k_Text_isOfWord 7 = .ok (.iload_n 0, 1) := by decide +kernel
theorem d_Text_isOfWord_8 : decode k_Text_isOfWord 8 = .ok (.bipush 40, 2) := by decide +kernel
theorem d_Text_isOfWord_10 : decode k_Text_isOfWord 10 = .ok (.if_icmp .eq (19), 3) := by decide +kernel
theorem d_Text_isOfWord_13 : decode k_Text_isOfWord 13 = .ok (.iload_n 0, 1) := by decide +kernel
theorem d_Text_isOfWord_14 : decode k_Text_isOfWord 14 = .ok (.bipush 41, 2) := by decide +kernel
theorem d_Text_isOfWord_16 : decode k_Text_isOfWord 16 = .ok (.if_icmp .eq (13), 3) := by decide +kernel
theorem d_Text_isOfWord_19 : decode k_Text_isOfWord 19 = .ok (.iload_n 0, 1) := by decide +kernel
theorem d_Text_isOfWord_20 : decode k_Text_isOfWord 20 = .ok (.bipush 39, 2) := by decide +kernel
theorem d_Text_isOfWord_22 : decode k_Text_isOfWord 22 = .ok (.if_icmp .eq (7), 3) := by decide +kernel
theorem d_Text_isOfWord_25 : decode k_Text_isOfWord 25 = .ok (.iconst 1, 1) := by decide +kernel
theorem d_Text_isOfWord_26 : decode k_Text_isOfWord 26 = .ok (.goto (4), 3) := by decide +kernel
theorem d_Text_isOfWord_29 : decode k_Text_isOfWord 29 = .ok (.iconst 0, 1) := by decide +kernel
theorem d_Text_isOfWord_30 : decode k_Text_isOfWord 30 = .ok (.ireturn, 1) := by decide +kernel
theorem d_Text_isCharacter_0 : decode k_Text_isCharacter 0 = .ok (.iload_n 0, 1) := by decide +kernel
theorem d_Text_isCharacter_1 : decode k_Text_isCharacter 1 = .ok (.bipush 10, 2) := by decide +kernel
theorem d_Text_isCharacter_3 : decode k_Text_isCharacter 3 = .ok (.if_icmp .eq (15), 3) := by decide +kernel
theorem d_Text_isCharacter_6 : decode k_Text_isCharacter 6 = .ok (.iload_n 0, 1) := by decide +kernel
theorem d_Text_isCharacter_7 : decode k_Text_isCharacter 7 = .ok (.bipush 32, 2) := by decide +kernel
theorem d_Text_isCharacter_9 : decode k_Text_isCharacter 9 = .ok (.if_icmp .lt (13), 3) := by decide +kernel
theorem d_Text_isCharacter_12 : decode k_Text_isCharacter 12 = .ok (.iload_n 0, 1) := by decide +kernel
theorem d_Text_isCharacter_13 : decode k_Text_isCharacter 13 = .ok (.bipush 126, 2) := by decide +kernel
theorem d_Text_isCharacter_15 : decode k_Text_isCharacter 15 = .ok (.if_icmp .gt (7), 3) := by decide +kernel
theorem d_Text_isCharacter_18 : decode k_Text_isCharacter 18 = .ok (.iconst 1, 1) := by decide +kernel
theorem d_Text_isCharacter_19 : decode k_Text_isCharacter 19 = .ok (.goto (4), 3) := by decide +kernel
theorem d_Text_isCharacter_22 : decode k_Text_isCharacter 22 = .ok (.iconst 0, 1) := by decide +kernel
theorem d_Text_isCharacter_23 : decode k_Text_isCharacter 23 = .ok (.ireturn, 1) := by decide +kernel
theorem d_Output_isFull_0 : decode k_Output_isFull 0 = .ok (.aload_n 0, 1) := by decide +kernel
theorem d_Output_isFull_1 : decode k_Output_isFull 1 = .ok (.getfield 13, 3) := by decide +kernel
theorem d_Output_isFull_4 : decode k_Output_isFull 4 = .ok (.sipush 200, 3) := by decide +kernel
theorem d_Output_isFull_7 : decode k_Output_isFull 7 = .ok (.if_icmp .lt (7), 3) := by decide +kernel
theorem d_Output_isFull_10 : decode k_Output_isFull 10 = .ok (.iconst 1, 1) := by decide +kernel
theorem d_Output_isFull_11 : decode k_Output_isFull 11 = .ok (.goto (4), 3) := by decide +kernel
theorem d_Output_isFull_14 : decode k_Output_isFull 14 = .ok (.iconst 0, 1) := by decide +kernel
theorem d_Output_isFull_15 : decode k_Output_isFull 15 = .ok (.ireturn, 1) := by decide +kernel
theorem d_Output_put_0 : decode k_Output_put 0 = .ok (.aload_n 0, 1) := by decide +kernel
theorem d_Output_put_1 : decode k_Output_put 1 = .ok (.getfield 13, 3) := by decide +kernel
theorem d_Output_put_4 : decode k_Output_put 4 = .ok (.ifCond .lt (33), 3) := by decide +kernel
theorem d_Output_put_7 : decode k_Output_put 7 = .ok (.aload_n 0, 1) := by decide +kernel
theorem d_Output_put_8 : decode k_Output_put 8 = .ok (.getfield 13, 3) := by decide +kernel
theorem d_Output_put_11 : decode k_Output_put 11 = .ok (.sipush 200, 3) := by decide +kernel
theorem d_Output_put_14 : decode k_Output_put 14 = .ok (.if_icmp .ge (23), 3) := by decide +kernel
theorem d_Output_put_17 : decode k_Output_put 17 = .ok (.aload_n 0, 1) := by decide +kernel
theorem d_Output_put_18 : decode k_Output_put 18 = .ok (.getfield 9, 3) := by decide +kernel
theorem d_Output_put_21 : decode k_Output_put 21 = .ok (.aload_n 0, 1) := by decide +kernel
theorem d_Output_put_22 : decode k_Output_put 22 = .ok (.getfield 13, 3) := by decide +kernel
theorem d_Output_put_25 : decode k_Output_put 25 = .ok (.iload_n 1, 1) := by decide +kernel
theorem d_Output_put_26 : decode k_Output_put 26 = .ok (.castore, 1) := by decide +kernel
theorem d_Output_put_27 : decode k_Output_put 27 = .ok (.aload_n 0, 1) := by decide +kernel
theorem d_Output_put_28 : decode k_Output_put 28 = .ok (.dup, 1) := by decide +kernel
theorem d_Output_put_29 : decode k_Output_put 29 = .ok (.getfield 13, 3) := by decide +kernel
theorem d_Output_put_32 : decode k_Output_put 32 = .ok (.iconst 1, 1) := by decide +kernel
theorem d_Output_put_33 : decode k_Output_put 33 = .ok (.iadd, 1) := by decide +kernel
theorem d_Output_put_34 : decode k_Output_put 34 = .ok (.putfield 13, 3) := by decide +kernel
theorem d_Output_put_37 : decode k_Output_put 37 = .ok (.return_, 1) := by decide +kernel
theorem d_Output_at_0 : decode k_Output_at 0 = .ok (.iload_n 1, 1) := by decide +kernel
theorem d_Output_at_1 : decode k_Output_at 1 = .ok (.ifCond .lt (27), 3) := by decide +kernel
theorem d_Output_at_4 : decode k_Output_at 4 = .ok (.iload_n 1, 1) := by decide +kernel
theorem d_Output_at_5 : decode k_Output_at 5 = .ok (.aload_n 0, 1) := by decide +kernel
theorem d_Output_at_6 : decode k_Output_at 6 = .ok (.getfield 13, 3) := by decide +kernel
theorem d_Output_at_9 : decode k_Output_at 9 = .ok (.if_icmp .ge (19), 3) := by decide +kernel
theorem d_Output_at_12 : decode k_Output_at 12 = .ok (.iload_n 1, 1) := by decide +kernel
theorem d_Output_at_13 : decode k_Output_at 13 = .ok (.sipush 200, 3) := by decide +kernel
theorem d_Output_at_16 : decode k_Output_at 16 = .ok (.if_icmp .ge (12), 3) := by decide +kernel
theorem d_Output_at_19 : decode k_Output_at 19 = .ok (.aload_n 0, 1) := by decide +kernel
theorem d_Output_at_20 : decode k_Output_at 20 = .ok (.getfield 9, 3) := by decide +kernel
theorem d_Output_at_23 : decode k_Output_at 23 = .ok (.iload_n 1, 1) := by decide +kernel
theorem d_Output_at_24 : decode k_Output_at 24 = .ok (.caload, 1) := by decide +kernel
theorem d_Output_at_25 : decode k_Output_at 25 = .ok (.goto (4), 3) := by decide +kernel
theorem d_Output_at_28 : decode k_Output_at 28 = .ok (.iconst (-1), 1) := by decide +kernel
theorem d_Output_at_29 : decode k_Output_at 29 = .ok (.ireturn, 1) := by decide +kernel
theorem d_Symbols_find_0 : decode k_Symbols_find 0 = .ok (.iconst 0, 1) := by decide +kernel
theorem d_Symbols_find_1 : decode k_Symbols_find 1 = .ok (.istore_n 3, 1) := by decide +kernel
theorem d_Symbols_find_2 : decode k_Symbols_find 2 = .ok (.iload_n 3, 1) := by decide +kernel
theorem d_Symbols_find_3 : decode k_Symbols_find 3 = .ok (.aload_n 0, 1) := by decide +kernel
theorem d_Symbols_find_4 : decode k_Symbols_find 4 = .ok (.getfield 39, 3) := by decide +kernel
theorem d_Symbols_find_7 : decode k_Symbols_find 7 = .ok (.if_icmp .ge (28), 3) := by decide +kernel
theorem d_Symbols_find_10 : decode k_Symbols_find 10 = .ok (.iload_n 3, 1) := by decide +kernel
theorem d_Symbols_find_11 : decode k_Symbols_find 11 = .ok (.bipush 40, 2) := by decide +kernel
theorem d_Symbols_find_13 : decode k_Symbols_find 13 = .ok (.if_icmp .ge (22), 3) := by decide +kernel
theorem d_Symbols_find_16 : decode k_Symbols_find 16 = .ok (.aload_n 0, 1) := by decide +kernel
theorem d_Symbols_find_17 : decode k_Symbols_find 17 = .ok (.getfield 9, 3) := by decide +kernel
theorem d_Symbols_find_20 : decode k_Symbols_find 20 = .ok (.iload_n 3, 1) := by decide +kernel
theorem d_Symbols_find_21 : decode k_Symbols_find 21 = .ok (.laload, 1) := by decide +kernel
theorem d_Symbols_find_22 : decode k_Symbols_find 22 = .ok (.lload_n 1, 1) := by decide +kernel
theorem d_Symbols_find_23 : decode k_Symbols_find 23 = .ok (.lcmp, 1) := by decide +kernel
theorem d_Symbols_find_24 : decode k_Symbols_find 24 = .ok (.ifCond .ne (5), 3) := by decide +kernel
theorem d_Symbols_find_27 : decode k_Symbols_find 27 = .ok (.iload_n 3, 1) := by decide +kernel
theorem d_Symbols_find_28 : decode k_Symbols_find 28 = .ok (.ireturn, 1) := by decide +kernel
theorem d_Symbols_find_29 : decode k_Symbols_find 29 = .ok (.iinc 3 1, 3) := by decide +kernel
theorem d_Symbols_find_32 : decode k_Symbols_find 32 = .ok (.goto (-30), 3) := by decide +kernel
theorem d_Symbols_find_35 : decode k_Symbols_find 35 = .ok (.iconst (-1), 1) := by decide +kernel
theorem d_Symbols_find_36 : decode k_Symbols_find 36 = .ok (.ireturn, 1) := by decide +kernel
theorem d_Symbols_learn_0 : decode k_Symbols_learn 0 = .ok (.aload_n 0, 1) := by decide +kernel
theorem d_Symbols_learn_1 : decode k_Symbols_learn 1 = .ok (.lload_n 1, 1) := by decide +kernel
theorem d_Symbols_learn_2 : decode k_Symbols_learn 2 = .ok (.invokevirtual 43, 3) := by decide +kernel
theorem d_Symbols_learn_5 : decode k_Symbols_learn 5 = .ok (.ifCond .lt (5), 3) := by decide +kernel
theorem d_Symbols_learn_8 : decode k_Symbols_learn 8 = .ok (.iconst 1, 1) := by decide +kernel
theorem d_Symbols_learn_9 : decode k_Symbols_learn 9 = .ok (.ireturn, 1) := by decide +kernel
theorem d_Symbols_learn_10 : decode k_Symbols_learn 10 = .ok (.aload_n 0, 1) := by decide +kernel
theorem d_Symbols_learn_11 : decode k_Symbols_learn 11 = .ok (.getfield 39, 3) := by decide +kernel
theorem d_Symbols_learn_14 : decode k_Symbols_learn 14 = .ok (.bipush 40, 2) := by decide +kernel
theorem d_Symbols_learn_16 : decode k_Symbols_learn 16 = .ok (.if_icmp .lt (5), 3) := by decide +kernel
theorem d_Symbols_learn_19 : decode k_Symbols_learn 19 = .ok (.iconst 0, 1) := by decide +kernel
theorem d_Symbols_learn_20 : decode k_Symbols_learn 20 = .ok (.ireturn, 1) := by decide +kernel
theorem d_Symbols_learn_21 : decode k_Symbols_learn 21 = .ok (.aload_n 0, 1) := by decide +kernel
theorem d_Symbols_learn_22 : decode k_Symbols_learn 22 = .ok (.getfield 9, 3) := by decide +kernel
theorem d_Symbols_learn_25 : decode k_Symbols_learn 25 = .ok (.aload_n 0, 1) := by decide +kernel
theorem d_Symbols_learn_26 : decode k_Symbols_learn 26 = .ok (.getfield 39, 3) := by decide +kernel
theorem d_Symbols_learn_29 : decode k_Symbols_learn 29 = .ok (.lload_n 1, 1) := by decide +kernel
theorem d_Symbols_learn_30 : decode k_Symbols_learn 30 = .ok (.lastore, 1) := by decide +kernel
theorem d_Symbols_learn_31 : decode k_Symbols_learn 31 = .ok (.aload_n 0, 1) := by decide +kernel
theorem d_Symbols_learn_32 : decode k_Symbols_learn 32 = .ok (.getfield 13, 3) := by decide +kernel
theorem d_Symbols_learn_35 : decode k_Symbols_learn 35 = .ok (.aload_n 0, 1) := by decide +kernel
theorem d_Symbols_learn_36 : decode k_Symbols_learn 36 = .ok (.getfield 39, 3) := by decide +kernel
theorem d_Symbols_learn_39 : decode k_Symbols_learn 39 = .ok (.bipush 6, 2) := by decide +kernel
theorem d_Symbols_learn_41 : decode k_Symbols_learn 41 = .ok (.iastore, 1) := by decide +kernel
theorem d_Symbols_learn_42 : decode k_Symbols_learn 42 = .ok (.aload_n 0, 1) := by decide +kernel
theorem d_Symbols_learn_43 : decode k_Symbols_learn 43 = .ok (.dup, 1) := by decide +kernel
theorem d_Symbols_learn_44 : decode k_Symbols_learn 44 = .ok (.getfield 39, 3) := by decide +kernel
theorem d_Symbols_learn_47 : decode k_Symbols_learn 47 = .ok (.iconst 1, 1) := by decide +kernel
theorem d_Symbols_learn_48 : decode k_Symbols_learn 48 = .ok (.iadd, 1) := by decide +kernel
theorem d_Symbols_learn_49 : decode k_Symbols_learn 49 = .ok (.putfield 39, 3) := by decide +kernel
theorem d_Symbols_learn_52 : decode k_Symbols_learn 52 = .ok (.iconst 1, 1) := by decide +kernel
theorem d_Symbols_learn_53 : decode k_Symbols_learn 53 = .ok (.ireturn, 1) := by decide +kernel
theorem d_Symbols_name_0 : decode k_Symbols_name 0 = .ok (.iload_n 1, 1) := by decide +kernel
theorem d_Symbols_name_1 : decode k_Symbols_name 1 = .ok (.ifCond .lt (18), 3) := by decide +kernel
theorem d_Symbols_name_4 : decode k_Symbols_name 4 = .ok (.iload_n 1, 1) := by decide +kernel
theorem d_Symbols_name_5 : decode k_Symbols_name 5 = .ok (.bipush 40, 2) := by decide +kernel
theorem d_Symbols_name_7 : decode k_Symbols_name 7 = .ok (.if_icmp .ge (12), 3) := by decide +kernel
theorem d_Symbols_name_10 : decode k_Symbols_name 10 = .ok (.aload_n 0, 1) := by decide +kernel
theorem d_Symbols_name_11 : decode k_Symbols_name 11 = .ok (.getfield 9, 3) := by decide +kernel
theorem d_Symbols_name_14 : decode k_Symbols_name 14 = .ok (.iload_n 1, 1) := by decide +kernel
theorem d_Symbols_name_15 : decode k_Symbols_name 15 = .ok (.laload, 1) := by decide +kernel
theorem d_Symbols_name_16 : decode k_Symbols_name 16 = .ok (.goto (4), 3) := by decide +kernel
theorem d_Symbols_name_19 : decode k_Symbols_name 19 = .ok (.lconst 0, 1) := by decide +kernel
theorem d_Symbols_name_20 : decode k_Symbols_name 20 = .ok (.lreturn, 1) := by decide +kernel
theorem d_Symbols_global_0 : decode k_Symbols_global 0 = .ok (.iload_n 1, 1) := by decide +kernel
theorem d_Symbols_global_1 : decode k_Symbols_global 1 = .ok (.ifCond .lt (18), 3) := by decide +kernel
theorem d_Symbols_global_4 : decode k_Symbols_global 4 = .ok (.iload_n 1, 1) := by decide +kernel
theorem d_Symbols_global_5 : decode k_Symbols_global 5 = .ok (.bipush 40, 2) := by decide +kernel
theorem d_Symbols_global_7 : decode k_Symbols_global 7 = .ok (.if_icmp .ge (12), 3) := by decide +kernel
theorem d_Symbols_global_10 : decode k_Symbols_global 10 = .ok (.aload_n 0, 1) := by decide +kernel
theorem d_Symbols_global_11 : decode k_Symbols_global 11 = .ok (.getfield 13, 3) := by decide +kernel
theorem d_Symbols_global_14 : decode k_Symbols_global 14 = .ok (.iload_n 1, 1) := by decide +kernel
theorem d_Symbols_global_15 : decode k_Symbols_global 15 = .ok (.iaload, 1) := by decide +kernel
theorem d_Symbols_global_16 : decode k_Symbols_global 16 = .ok (.goto (5), 3) := by decide +kernel
theorem d_Symbols_global_19 : decode k_Symbols_global 19 = .ok (.bipush 6, 2) := by decide +kernel
theorem d_Symbols_global_21 : decode k_Symbols_global 21 = .ok (.ireturn, 1) := by decide +kernel
theorem d_Symbols_setGlobal_0 : decode k_Symbols_setGlobal 0 = .ok (.iload_n 1, 1) := by decide +kernel
theorem d_Symbols_setGlobal_1 : decode k_Symbols_setGlobal 1 = .ok (.ifCond .lt (16), 3) := by decide +kernel
theorem d_Symbols_setGlobal_4 : decode k_Symbols_setGlobal 4 = .ok (.iload_n 1, 1) := by decide +kernel
theorem d_Symbols_setGlobal_5 : decode k_Symbols_setGlobal 5 = .ok (.bipush 40, 2) := by decide +kernel
theorem d_Symbols_setGlobal_7 : decode k_Symbols_setGlobal 7 = .ok (.if_icmp .ge (10), 3) := by decide +kernel
theorem d_Symbols_setGlobal_10 : decode k_Symbols_setGlobal 10 = .ok (.aload_n 0, 1) := by decide +kernel
theorem d_Symbols_setGlobal_11 : decode k_Symbols_setGlobal 11 = .ok (.getfield 13, 3) := by decide +kernel
theorem d_Symbols_setGlobal_14 : decode k_Symbols_setGlobal 14 = .ok (.iload_n 1, 1) := by decide +kernel
theorem d_Symbols_setGlobal_15 : decode k_Symbols_setGlobal 15 = .ok (.iload_n 2, 1) := by decide +kernel
theorem d_Symbols_setGlobal_16 : decode k_Symbols_setGlobal 16 = .ok (.iastore, 1) := by decide +kernel
theorem d_Symbols_setGlobal_17 : decode k_Symbols_setGlobal 17 = .ok (.return_, 1) := by decide +kernel
theorem d_State_push_0 : decode k_State_push 0 = .ok (.aload_n 0, 1) := by decide +kernel
theorem d_State_push_1 : decode k_State_push 1 = .ok (.getfield 31, 3) := by decide +kernel
theorem d_State_push_4 : decode k_State_push 4 = .ok (.ifCond .lt (12), 3) := by decide +kernel
theorem d_State_push_7 : decode k_State_push 7 = .ok (.aload_n 0, 1) := by decide +kernel
theorem d_State_push_8 : decode k_State_push 8 = .ok (.getfield 31, 3) := by decide +kernel
theorem d_State_push_11 : decode k_State_push 11 = .ok (.bipush 30, 2) := by decide +kernel
theorem d_State_push_13 : decode k_State_push 13 = .ok (.if_icmp .lt (5), 3) := by decide +kernel
theorem d_State_push_16 : decode k_State_push 16 = .ok (.iconst 0, 1) := by decide +kernel
theorem d_State_push_17 : decode k_State_push 17 = .ok (.ireturn, 1) := by decide +kernel
theorem d_State_push_18 : decode k_State_push 18 = .ok (.aload_n 0, 1) := by decide +kernel
theorem d_State_push_19 : decode k_State_push 19 = .ok (.getfield 18, 3) := by decide +kernel
theorem d_State_push_22 : decode k_State_push 22 = .ok (.aload_n 0, 1) := by decide +kernel
theorem d_State_push_23 : decode k_State_push 23 = .ok (.getfield 31, 3) := by decide +kernel
theorem d_State_push_26 : decode k_State_push 26 = .ok (.iload_n 1, 1) := by decide +kernel
theorem d_State_push_27 : decode k_State_push 27 = .ok (.iastore, 1) := by decide +kernel
theorem d_State_push_28 : decode k_State_push 28 = .ok (.aload_n 0, 1) := by decide +kernel
theorem d_State_push_29 : decode k_State_push 29 = .ok (.getfield 22, 3) := by decide +kernel
theorem d_State_push_32 : decode k_State_push 32 = .ok (.aload_n 0, 1) := by decide +kernel
theorem d_State_push_33 : decode k_State_push 33 = .ok (.getfield 31, 3) := by decide +kernel
theorem d_State_push_36 : decode k_State_push 36 = .ok (.iload_n 2, 1) := by decide +kernel
theorem d_State_push_37 : decode k_State_push 37 = .ok (.iastore, 1) := by decide +kernel
theorem d_State_push_38 : decode k_State_push 38 = .ok (.aload_n 0, 1) := by decide +kernel
theorem d_State_push_39 : decode k_State_push 39 = .ok (.getfield 25, 3) := by decide +kernel
theorem d_State_push_42 : decode k_State_push 42 = .ok (.aload_n 0, 1) := by decide +kernel
theorem d_State_push_43 : decode k_State_push 43 = .ok (.getfield 31, 3) := by decide +kernel
theorem d_State_push_46 : decode k_State_push 46 = .ok (.iload_n 3, 1) := by decide +kernel
theorem d_State_push_47 : decode k_State_push 47 = .ok (.iastore, 1) := by decide +kernel
theorem d_State_push_48 : decode k_State_push 48 = .ok (.aload_n 0, 1) := by decide +kernel
theorem d_State_push_49 : decode k_State_push 49 = .ok (.getfield 28, 3) := by decide +kernel
theorem d_State_push_52 : decode k_State_push 52 = .ok (.aload_n 0, 1) := by decide +kernel
theorem d_State_push_53 : decode k_State_push 53 = .ok (.getfield 31, 3) := by decide +kernel
theorem d_State_push_56 : decode k_State_push 56 = .ok (.iconst 2, 1) := by decide +kernel
theorem d_State_push_57 : decode k_State_push 57 = .ok (.iastore, 1) := by decide +kernel
theorem d_State_push_58 : decode k_State_push 58 = .ok (.aload_n 0, 1) := by decide +kernel
theorem d_State_push_59 : decode k_State_push 59 = .ok (.dup, 1) := by decide +kernel
theorem d_State_push_60 : decode k_State_push 60 = .ok (.getfield 31, 3) := by decide +kernel
theorem d_State_push_63 : decode k_State_push 63 = .ok (.iconst 1, 1) := by decide +kernel
theorem d_State_push_64 : decode k_State_push 64 = .ok (.iadd, 1) := by decide +kernel
theorem d_State_push_65 : decode k_State_push 65 = .ok (.putfield 31, 3) := by decide +kernel
theorem d_State_push_68 : decode k_State_push 68 = .ok (.iconst 1, 1) := by decide +kernel
theorem d_State_push_69 : decode k_State_push 69 = .ok (.ireturn, 1) := by decide +kernel
theorem d_State_pop_0 : decode k_State_pop 0 = .ok (.aload_n 0, 1) := by decide +kernel
theorem d_State_pop_1 : decode k_State_pop 1 = .ok (.getfield 31, 3) := by decide +kernel
theorem d_State_pop_4 : decode k_State_pop 4 = .ok (.ifCond .le (13), 3) := by decide +kernel
theorem d_State_pop_7 : decode k_State_pop 7 = .ok (.aload_n 0, 1) := by decide +kernel
theorem d_State_pop_8 : decode k_State_pop 8 = .ok (.dup, 1) := by decide +kernel
theorem d_State_pop_9 : decode k_State_pop 9 = .ok (.getfield 31, 3) := by decide +kernel
theorem d_State_pop_12 : decode k_State_pop 12 = .ok (.iconst 1, 1) := by decide +kernel
theorem d_State_pop_13 : decode k_State_pop 13 = .ok (.isub, 1) := by decide +kernel
theorem d_State_pop_14 : decode k_State_pop 14 = .ok (.putfield 31, 3) := by decide +kernel
theorem d_State_pop_17 : decode k_State_pop 17 = .ok (.return_, 1) := by decide +kernel
theorem d_State_kind_0 : decode k_State_kind 0 = .ok (.aload_n 0, 1) := by decide +kernel
theorem d_State_kind_1 : decode k_State_kind 1 = .ok (.invokevirtual 34, 3) := by decide +kernel
theorem d_State_kind_4 : decode k_State_kind 4 = .ok (.ifCond .eq (17), 3) := by decide +kernel
theorem d_State_kind_7 : decode k_State_kind 7 = .ok (.aload_n 0, 1) := by decide +kernel
theorem d_State_kind_8 : decode k_State_kind 8 = .ok (.getfield 18, 3) := by decide +kernel
theorem d_State_kind_11 : decode k_State_kind 11 = .ok (.aload_n 0, 1) := by decide +kernel
theorem d_State_kind_12 : decode k_State_kind 12 = .ok (.getfield 31, 3) := by decide +kernel
theorem d_State_kind_15 : decode k_State_kind 15 = .ok (.iconst 1, 1) := by decide +kernel
theorem d_State_kind_16 : decode k_State_kind 16 = .ok (.isub, 1) := by decide +kernel
theorem d_State_kind_17 : decode k_State_kind 17 = .ok (.iaload, 1) := by decide +kernel
theorem d_State_kind_18 : decode k_State_kind 18 = .ok (.goto (4), 3) := by decide +kernel
theorem d_State_kind_21 : decode k_State_kind 21 = .ok (.iconst 0, 1) := by decide +kernel
theorem d_State_kind_22 : decode k_State_kind 22 = .ok (.ireturn, 1) := by decide +kernel
theorem d_State_a_0 : decode k_State_a 0 = .ok (.aload_n 0, 1) := by decide +kernel
theorem d_State_a_1 : decode k_State_a 1 = .ok (.invokevirtual 34, 3) := by decide +kernel
theorem d_State_a_4 : decode k_State_a 4 = .ok (.ifCond .eq (17), 3) := by decide +kernel
theorem d_State_a_7 : decode k_State_a 7 = .ok (.aload_n 0, 1) := by decide +kernel
theorem d_State_a_8 : decode k_State_a 8 = .ok (.getfield 22, 3) := by decide +kernel
theorem d_State_a_11 : decode k_State_a 11 = .ok (.aload_n 0, 1) := by decide +kernel
theorem d_State_a_12 : decode k_State_a 12 = .ok (.getfield 31, 3) := by decide +kernel
theorem d_State_a_15 : decode k_State_a 15 = .ok (.iconst 1, 1) := by decide +kernel
theorem d_State_a_16 : decode k_State_a 16 = .ok (.isub, 1) := by decide +kernel
theorem d_State_a_17 : decode k_State_a 17 = .ok (.iaload, 1) := by decide +kernel
theorem d_State_a_18 : decode k_State_a 18 = .ok (.goto (4), 3) := by decide +kernel
theorem d_State_a_21 : decode k_State_a 21 = .ok (.iconst 2, 1) := by decide +kernel
theorem d_State_a_22 : decode k_State_a 22 = .ok (.ireturn, 1) := by decide +kernel
theorem d_State_b_0 : decode k_State_b 0 = .ok (.aload_n 0, 1) := by decide +kernel
theorem d_State_b_1 : decode k_State_b 1 = .ok (.invokevirtual 34, 3) := by decide +kernel
theorem d_State_b_4 : decode k_State_b 4 = .ok (.ifCond .eq (17), 3) := by decide +kernel
theorem d_State_b_7 : decode k_State_b 7 = .ok (.aload_n 0, 1) := by decide +kernel
theorem d_State_b_8 : decode k_State_b 8 = .ok (.getfield 25, 3) := by decide +kernel
theorem d_State_b_11 : decode k_State_b 11 = .ok (.aload_n 0, 1) := by decide +kernel
theorem d_State_b_12 : decode k_State_b 12 = .ok (.getfield 31, 3) := by decide +kernel
theorem d_State_b_15 : decode k_State_b 15 = .ok (.iconst 1, 1) := by decide +kernel
theorem d_State_b_16 : decode k_State_b 16 = .ok (.isub, 1) := by decide +kernel
theorem d_State_b_17 : decode k_State_b 17 = .ok (.iaload, 1) := by decide +kernel
theorem d_State_b_18 : decode k_State_b 18 = .ok (.goto (4), 3) := by decide +kernel
theorem d_State_b_21 : decode k_State_b 21 = .ok (.iconst 2, 1) := by decide +kernel
theorem d_State_b_22 : decode k_State_b 22 = .ok (.ireturn, 1) := by decide +kernel
theorem d_State_c_0 : decode k_State_c 0 = .ok (.aload_n 0, 1) := by decide +kernel
theorem d_State_c_1 : decode k_State_c 1 = .ok (.invokevirtual 34, 3) := by decide +kernel
theorem d_State_c_4 : decode k_State_c 4 = .ok (.ifCond .eq (17), 3) := by decide +kernel
theorem d_State_c_7 : decode k_State_c 7 = .ok (.aload_n 0, 1) := by decide +kernel
theorem d_State_c_8 : decode k_State_c 8 = .ok (.getfield 28, 3) := by decide +kernel
theorem d_State_c_11 : decode k_State_c 11 = .ok (.aload_n 0, 1) := by decide +kernel
theorem d_State_c_12 : decode k_State_c 12 = .ok (.getfield 31, 3) := by decide +kernel
theorem d_State_c_15 : decode k_State_c 15 = .ok (.iconst 1, 1) := by decide +kernel
theorem d_State_c_16 : decode k_State_c 16 = .ok (.isub, 1) := by decide +kernel
theorem d_State_c_17 : decode k_State_c 17 = .ok (.iaload, 1) := by decide +kernel
theorem d_State_c_18 : decode k_State_c 18 = .ok (.goto (4), 3) := by decide +kernel
theorem d_State_c_21 : decode k_State_c 21 = .ok (.iconst 2, 1) := by decide +kernel
theorem d_State_c_22 : decode k_State_c 22 = .ok (.ireturn, 1) := by decide +kernel
theorem d_State_setA_0 : decode k_State_setA 0 = .ok (.aload_n 0, 1) := by decide +kernel
theorem d_State_setA_1 : decode k_State_setA 1 = .ok (.invokevirtual 34, 3) := by decide +kernel
theorem d_State_setA_4 : decode k_State_setA 4 = .ok (.ifCond .eq (15), 3) := by decide +kernel
theorem d_State_setA_7 : decode k_State_setA 7 = .ok (.aload_n 0, 1) := by decide +kernel
theorem d_State_setA_8 : decode k_State_setA 8 = .ok (.getfield 22, 3) := by decide +kernel
theorem d_State_setA_11 : decode k_State_setA 11 = .ok (.aload_n 0, 1) := by decide +kernel
theorem d_State_setA_12 : decode k_State_setA 12 = .ok (.getfield 31, 3) := by decide +kernel
theorem d_State_setA_15 : decode k_State_setA 15 = .ok (.iconst 1, 1) := by decide +kernel
theorem d_State_setA_16 : decode k_State_setA 16 = .ok (.isub, 1) := by decide +kernel
theorem d_State_setA_17 : decode k_State_setA 17 = .ok (.iload_n 1, 1) := by decide +kernel
theorem d_State_setA_18 : decode k_State_setA 18 = .ok (.iastore, 1) := by decide +kernel
theorem d_State_setA_19 : decode k_State_setA 19 = .ok (.return_, 1) := by decide +kernel
theorem d_State_setC_0 : decode k_State_setC 0 = .ok (.aload_n 0, 1) := by decide +kernel
theorem d_State_setC_1 : decode k_State_setC 1 = .ok (.invokevirtual 34, 3) := by decide +kernel
theorem d_State_setC_4 : decode k_State_setC 4 = .ok (.ifCond .eq (15), 3) := by decide +kernel
theorem d_State_setC_7 : decode k_State_setC 7 = .ok (.aload_n 0, 1) := by decide +kernel
theorem d_State_setC_8 : decode k_State_setC 8 = .ok (.getfield 28, 3) := by decide +kernel
theorem d_State_setC_11 : decode k_State_setC 11 = .ok (.aload_n 0, 1) := by decide +kernel
theorem d_State_setC_12 : decode k_State_setC 12 = .ok (.getfield 31, 3) := by decide +kernel
theorem d_State_setC_15 : decode k_State_setC 15 = .ok (.iconst 1, 1) := by decide +kernel
theorem d_State_setC_16 : decode k_State_setC 16 = .ok (.isub, 1) := by decide +kernel
theorem d_State_setC_17 : decode k_State_setC 17 = .ok (.iload_n 1, 1) := by decide +kernel
theorem d_State_setC_18 : decode k_State_setC 18 = .ok (.iastore, 1) := by decide +kernel
theorem d_State_setC_19 : decode k_State_setC 19 = .ok (.return_, 1) := by decide +kernel
theorem d_State_hasTop_0 : decode k_State_hasTop 0 = .ok (.aload_n 0, 1) := by decide +kernel
theorem d_State_hasTop_1 : decode k_State_hasTop 1 = .ok (.getfield 31, 3) := by decide +kernel
theorem d_State_hasTop_4 : decode k_State_hasTop 4 = .ok (.iconst 1, 1) := by decide +kernel
theorem d_State_hasTop_5 : decode k_State_hasTop 5 = .ok (.if_icmp .lt (16), 3) := by decide +kernel
theorem d_State_hasTop_8 : decode k_State_hasTop 8 = .ok (.aload_n 0, 1) := by decide +kernel
theorem d_State_hasTop_9 : decode k_State_hasTop 9 = .ok (.getfield 31, 3) := by decide +kernel
theorem d_State_hasTop_12 : decode k_State_hasTop 12 = .ok (.bipush 30, 2) := by decide +kernel
theorem d_State_hasTop_14 : decode k_State_hasTop 14 = .ok (.if_icmp .gt (7), 3) := by decide +kernel
theorem d_State_hasTop_17 : decode k_State_hasTop 17 = .ok (.iconst 1, 1) := by decide +kernel
theorem d_State_hasTop_18 : decode k_State_hasTop 18 = .ok (.goto (4), 3) := by decide +kernel
theorem d_State_hasTop_21 : decode k_State_hasTop 21 = .ok (.iconst 0, 1) := by decide +kernel
theorem d_State_hasTop_22 : decode k_State_hasTop 22 = .ok (.ireturn, 1) := by decide +kernel
theorem d_Room_hasFor_0 : decode k_Room_hasFor 0 = .ok (.aload_n 0, 1) := by decide +kernel
theorem d_Room_hasFor_1 : decode k_Room_hasFor 1 = .ok (.getfield 53, 3) := by decide +kernel
theorem d_Room_hasFor_4 : decode k_Room_hasFor 4 = .ok (.iload_n 1, 1) := by decide +kernel
theorem d_Room_hasFor_5 : decode k_Room_hasFor 5 = .ok (.iadd, 1) := by decide +kernel
theorem d_Room_hasFor_6 : decode k_Room_hasFor 6 = .ok (.aload_n 0, 1) := by decide +kernel
theorem d_Room_hasFor_7 : decode k_Room_hasFor 7 = .ok (.getfield 7, 3) := by decide +kernel
theorem d_Room_hasFor_10 : decode k_Room_hasFor 10 = .ok (.if_icmp .le (7), 3) := by decide +kernel
theorem d_Room_hasFor_13 : decode k_Room_hasFor 13 = .ok (.aload_n 0, 1) := by decide +kernel
theorem d_Room_hasFor_14 : decode k_Room_hasFor 14 = .ok (.invokevirtual 56, 3) := by decide +kernel
theorem d_Room_hasFor_17 : decode k_Room_hasFor 17 = .ok (.aload_n 0, 1) := by decide +kernel
theorem d_Room_hasFor_18 : decode k_Room_hasFor 18 = .ok (.getfield 53, 3) := by decide +kernel
theorem d_Room_hasFor_21 : decode k_Room_hasFor 21 = .ok (.iload_n 1, 1) := by decide +kernel
theorem d_Room_hasFor_22 : decode k_Room_hasFor 22 = .ok (.iadd, 1) := by decide +kernel
theorem d_Room_hasFor_23 : decode k_Room_hasFor 23 = .ok (.aload_n 0, 1) := by decide +kernel
theorem d_Room_hasFor_24 : decode k_Room_hasFor 24 = .ok (.getfield 7, 3) := by decide +kernel
theorem d_Room_hasFor_27 : decode k_Room_hasFor 27 = .ok (.if_icmp .gt (7), 3) := by decide +kernel
theorem d_Room_hasFor_30 : decode k_Room_hasFor 30 = .ok (.iconst 1, 1) := by decide +kernel
theorem d_Room_hasFor_31 : decode k_Room_hasFor 31 = .ok (.goto (4), 3) := by decide +kernel
theorem d_Room_hasFor_34 : decode k_Room_hasFor 34 = .ok (.iconst 0, 1) := by decide +kernel
theorem d_Room_hasFor_35 : decode k_Room_hasFor 35 = .ok (.ireturn, 1) := by decide +kernel
theorem d_Room_pair_0 : decode k_Room_pair 0 = .ok (.aload_n 0, 1) := by decide +kernel
theorem d_Room_pair_1 : decode k_Room_pair 1 = .ok (.dup, 1) := by decide +kernel
theorem d_Room_pair_2 : decode k_Room_pair 2 = .ok (.getfield 53, 3) := by decide +kernel
theorem d_Room_pair_5 : decode k_Room_pair 5 = .ok (.iconst 2, 1) := by decide +kernel
theorem d_Room_pair_6 : decode k_Room_pair 6 = .ok (.iadd, 1) := by decide +kernel
theorem d_Room_pair_7 : decode k_Room_pair 7 = .ok (.putfield 53, 3) := by decide +kernel
theorem d_Room_pair_10 : decode k_Room_pair 10 = .ok (.aload_n 0, 1) := by decide +kernel
theorem d_Room_pair_11 : decode k_Room_pair 11 = .ok (.iconst 4, 1) := by decide +kernel
theorem d_Room_pair_12 : decode k_Room_pair 12 = .ok (.iload_n 1, 1) := by decide +kernel
theorem d_Room_pair_13 : decode k_Room_pair 13 = .ok (.iload_n 2, 1) := by decide +kernel
theorem d_Room_pair_14 : decode k_Room_pair 14 = .ok (.iconst 2, 1) := by decide +kernel
theorem d_Room_pair_15 : decode k_Room_pair 15 = .ok (.invokevirtual 61, 3) := by decide +kernel
theorem d_Room_pair_18 : decode k_Room_pair 18 = .ok (.ireturn, 1) := by decide +kernel
theorem d_Room_closure_0 : decode k_Room_closure 0 = .ok (.aload_n 0, 1) := by decide +kernel
theorem d_Room_closure_1 : decode k_Room_closure 1 = .ok (.dup, 1) := by decide +kernel
theorem d_Room_closure_2 : decode k_Room_closure 2 = .ok (.getfield 53, 3) := by decide +kernel
theorem d_Room_closure_5 : decode k_Room_closure 5 = .ok (.iconst 3, 1) := by decide +kernel
theorem d_Room_closure_6 : decode k_Room_closure 6 = .ok (.iadd, 1) := by decide +kernel
theorem d_Room_closure_7 : decode k_Room_closure 7 = .ok (.putfield 53, 3) := by decide +kernel
theorem d_Room_closure_10 : decode k_Room_closure 10 = .ok (.aload_n 0, 1) := by decide +kernel
theorem d_Room_closure_11 : decode k_Room_closure 11 = .ok (.iconst 5, 1) := by decide +kernel
theorem d_Room_closure_12 : decode k_Room_closure 12 = .ok (.iload_n 1, 1) := by decide +kernel
theorem d_Room_closure_13 : decode k_Room_closure 13 = .ok (.iload_n 2, 1) := by decide +kernel
theorem d_Room_closure_14 : decode k_Room_closure 14 = .ok (.iload_n 3, 1) := by decide +kernel
theorem d_Room_closure_15 : decode k_Room_closure 15 = .ok (.invokevirtual 61, 3) := by decide +kernel
theorem d_Room_closure_18 : decode k_Room_closure 18 = .ok (.ireturn, 1) := by decide +kernel
theorem d_Room_first_0 : decode k_Room_first 0 = .ok (.aload_n 0, 1) := by decide +kernel
theorem d_Room_first_1 : decode k_Room_first 1 = .ok (.iload_n 1, 1) := by decide +kernel
theorem d_Room_first_2 : decode k_Room_first 2 = .ok (.invokevirtual 65, 3) := by decide +kernel
theorem d_Room_first_5 : decode k_Room_first 5 = .ok (.ifCond .eq (15), 3) := by decide +kernel
theorem d_Room_first_8 : decode k_Room_first 8 = .ok (.aload_n 0, 1) := by decide +kernel
theorem d_Room_first_9 : decode k_Room_first 9 = .ok (.getfield 30, 3) := by decide +kernel
theorem d_Room_first_12 : decode k_Room_first 12 = .ok (.iload_n 1, 1) := by decide +kernel
theorem d_Room_first_13 : decode k_Room_first 13 = .ok (.invokestatic 69, 3) := by decide +kernel
theorem d_Room_first_16 : decode k_Room_first 16 = .ok (.iaload, 1) := by decide +kernel
theorem d_Room_first_17 : decode k_Room_first 17 = .ok (.goto (4), 3) := by decide +kernel
theorem d_Room_first_20 : decode k_Room_first 20 = .ok (.iconst 2, 1) := by decide +kernel
theorem d_Room_first_21 : decode k_Room_first 21 = .ok (.ireturn, 1) := by decide +kernel
theorem d_Room_second_0 : decode k_Room_second 0 = .ok (.aload_n 0, 1) := by decide +kernel
theorem d_Room_second_1 : decode k_Room_second 1 = .ok (.iload_n 1, 1) := by decide +kernel
theorem d_Room_second_2 : decode k_Room_second 2 = .ok (.invokevirtual 65, 3) := by decide +kernel
theorem d_Room_second_5 : decode k_Room_second 5 = .ok (.ifCond .eq (15), 3) := by decide +kernel
theorem d_Room_second_8 : decode k_Room_second 8 = .ok (.aload_n 0, 1) := by decide +kernel
theorem d_Room_second_9 : decode k_Room_second 9 = .ok (.getfield 34, 3) := by decide +kernel
theorem d_Room_second_12 : decode k_Room_second 12 = .ok (.iload_n 1, 1) := by decide +kernel
theorem d_Room_second_13 : decode k_Room_second 13 = .ok (.invokestatic 69, 3) := by decide +kernel
theorem d_Room_second_16 : decode k_Room_second 16 = .ok (.iaload, 1) := by decide +kernel
theorem d_Room_second_17 : decode k_Room_second 17 = .ok (.goto (4), 3) := by decide +kernel
theorem d_Room_second_20 : decode k_Room_second 20 = .ok (.iconst 2, 1) := by decide +kernel
theorem d_Room_second_21 : decode k_Room_second 21 = .ok (.ireturn, 1) := by decide +kernel
theorem d_Room_third_0 : decode k_Room_third 0 = .ok (.aload_n 0, 1) := by decide +kernel
theorem d_Room_third_1 : decode k_Room_third 1 = .ok (.iload_n 1, 1) := by decide +kernel
theorem d_Room_third_2 : decode k_Room_third 2 = .ok (.invokevirtual 65, 3) := by decide +kernel
theorem d_Room_third_5 : decode k_Room_third 5 = .ok (.ifCond .eq (15), 3) := by decide +kernel
theorem d_Room_third_8 : decode k_Room_third 8 = .ok (.aload_n 0, 1) := by decide +kernel
theorem d_Room_third_9 : decode k_Room_third 9 = .ok (.getfield 37, 3) := by decide +kernel
theorem d_Room_third_12 : decode k_Room_third 12 = .ok (.iload_n 1, 1) := by decide +kernel
theorem d_Room_third_13 : decode k_Room_third 13 = .ok (.invokestatic 69, 3) := by decide +kernel
theorem d_Room_third_16 : decode k_Room_third 16 = .ok (.iaload, 1) := by decide +kernel
theorem d_Room_third_17 : decode k_Room_third 17 = .ok (.goto (4), 3) := by decide +kernel
theorem d_Room_third_20 : decode k_Room_third 20 = .ok (.iconst 2, 1) := by decide +kernel
theorem d_Room_third_21 : decode k_Room_third 21 = .ok (.ireturn, 1) := by decide +kernel
theorem d_Room_setSecond_0 : decode k_Room_setSecond 0 = .ok (.aload_n 0, 1) := by decide +kernel
theorem d_Room_setSecond_1 : decode k_Room_setSecond 1 = .ok (.iload_n 1, 1) := by decide +kernel
theorem d_Room_setSecond_2 : decode k_Room_setSecond 2 = .ok (.invokevirtual 65, 3) := by decide +kernel
theorem d_Room_setSecond_5 : decode k_Room_setSecond 5 = .ok (.ifCond .eq (13), 3) := by decide +kernel
theorem d_Room_setSecond_8 : decode k_Room_setSecond 8 = .ok (.aload_n 0, 1) := by decide +kernel
theorem d_Room_setSecond_9 : decode k_Room_setSecond 9 = .ok (.getfield 34, 3) := by decide +kernel
theorem d_Room_setSecond_12 : decode k_Room_setSecond 12 = .ok (.iload_n 1, 1) := by decide +kernel
theorem d_Room_setSecond_13 : decode k_Room_setSecond 13 = .ok (.invokestatic 69, 3) := by decide +kernel
theorem d_Room_setSecond_16 : decode k_Room_setSecond 16 = .ok (.iload_n 2, 1) := by decide +kernel
theorem d_Room_setSecond_17 : decode k_Room_setSecond 17 = .ok (.iastore, 1) := by decide +kernel
theorem d_Room_setSecond_18 : decode k_Room_setSecond 18 = .ok (.return_, 1) := by decide +kernel
theorem d_Room_length_0 : decode k_Room_length 0 = .ok (.iload_n 1, 1) := by decide +kernel
theorem d_Room_length_1 : decode k_Room_length 1 = .ok (.istore_n 2, 1) := by decide +kernel
theorem d_Room_length_2 : decode k_Room_length 2 = .ok (.iconst 0, 1) := by decide +kernel
theorem d_Room_length_3 : decode k_Room_length 3 = .ok (.istore_n 3, 1) := by decide +kernel
theorem d_Room_length_4 : decode k_Room_length 4 = .ok (.iload_n 3, 1) := by decide +kernel
theorem d_Room_length_5 : decode k_Room_length 5 = .ok (.aload_n 0, 1) := by decide +kernel
theorem d_Room_length_6 : decode k_Room_length 6 = .ok (.getfield 27, 3) := by decide +kernel
