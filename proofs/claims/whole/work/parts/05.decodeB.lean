theorem dX8_number_12 : decode cX8_number 12 = .ok (.if_icmp .eq 8, 3) := by decide +kernel
theorem dX8_number_15 : decode cX8_number 15 = .ok (.aload_n 0, 1) := by decide +kernel
theorem dX8_number_16 : decode cX8_number 16 = .ok (.iconst 1, 1) := by decide +kernel
theorem dX8_number_17 : decode cX8_number 17 = .ok (.invokevirtual 171, 3) := by decide +kernel
theorem dX8_number_20 : decode cX8_number 20 = .ok (.aload_n 0, 1) := by decide +kernel
theorem dX8_number_21 : decode cX8_number 21 = .ok (.getfield 162, 3) := by decide +kernel
theorem dX8_number_24 : decode cX8_number 24 = .ok (.ifCond .ne 24, 3) := by decide +kernel
theorem dX8_number_27 : decode cX8_number 27 = .ok (.aload_n 0, 1) := by decide +kernel
theorem dX8_number_28 : decode cX8_number 28 = .ok (.getfield 144, 3) := by decide +kernel
theorem dX8_number_31 : decode cX8_number 31 = .ok (.iload_n 1, 1) := by decide +kernel
theorem dX8_number_32 : decode cX8_number 32 = .ok (.if_icmp .lt 11, 3) := by decide +kernel
theorem dX8_number_35 : decode cX8_number 35 = .ok (.aload_n 0, 1) := by decide +kernel
theorem dX8_number_36 : decode cX8_number 36 = .ok (.getfield 144, 3) := by decide +kernel
theorem dX8_number_39 : decode cX8_number 39 = .ok (.iload_n 2, 1) := by decide +kernel
theorem dX8_number_40 : decode cX8_number 40 = .ok (.if_icmp .le 8, 3) := by decide +kernel
theorem dX8_number_43 : decode cX8_number 43 = .ok (.aload_n 0, 1) := by decide +kernel
theorem dX8_number_44 : decode cX8_number 44 = .ok (.iconst 2, 1) := by decide +kernel
theorem dX8_number_45 : decode cX8_number 45 = .ok (.invokevirtual 171, 3) := by decide +kernel
theorem dX8_number_48 : decode cX8_number 48 = .ok (.aload_n 0, 1) := by decide +kernel
theorem dX8_number_49 : decode cX8_number 49 = .ok (.getfield 162, 3) := by decide +kernel
theorem dX8_number_52 : decode cX8_number 52 = .ok (.ifCond .ne 10, 3) := by decide +kernel
theorem dX8_number_55 : decode cX8_number 55 = .ok (.aload_n 0, 1) := by decide +kernel
theorem dX8_number_56 : decode cX8_number 56 = .ok (.getfield 144, 3) := by decide +kernel
theorem dX8_number_59 : decode cX8_number 59 = .ok (.goto 4, 3) := by decide +kernel
theorem dX8_number_62 : decode cX8_number 62 = .ok (.iconst 0, 1) := by decide +kernel
theorem dX8_number_63 : decode cX8_number 63 = .ok (.istore_n 3, 1) := by decide +kernel
theorem dX8_number_64 : decode cX8_number 64 = .ok (.aload_n 0, 1) := by decide +kernel
theorem dX8_number_65 : decode cX8_number 65 = .ok (.invokevirtual 175, 3) := by decide +kernel
theorem dX8_number_68 : decode cX8_number 68 = .ok (.iload_n 3, 1) := by decide +kernel
theorem dX8_number_69 : decode cX8_number 69 = .ok (.ireturn, 1) := by decide +kernel
theorem dX8_named_0 : decode cX8_named 0 = .ok (.iconst 0, 1) := by decide +kernel
theorem dX8_named_1 : decode cX8_named 1 = .ok (.istore_n 3, 1) := by decide +kernel
theorem dX8_named_2 : decode cX8_named 2 = .ok (.iload_n 3, 1) := by decide +kernel
theorem dX8_named_3 : decode cX8_named 3 = .ok (.iload_n 2, 1) := by decide +kernel
theorem dX8_named_4 : decode cX8_named 4 = .ok (.if_icmp .ge 21, 3) := by decide +kernel
theorem dX8_named_7 : decode cX8_named 7 = .ok (.aload_n 1, 1) := by decide +kernel
theorem dX8_named_8 : decode cX8_named 8 = .ok (.iload_n 3, 1) := by decide +kernel
theorem dX8_named_9 : decode cX8_named 9 = .ok (.iaload, 1) := by decide +kernel
theorem dX8_named_10 : decode cX8_named 10 = .ok (.aload_n 0, 1) := by decide +kernel
theorem dX8_named_11 : decode cX8_named 11 = .ok (.getfield 138, 3) := by decide +kernel
theorem dX8_named_14 : decode cX8_named 14 = .ok (.if_icmp .ne 5, 3) := by decide +kernel
theorem dX8_named_17 : decode cX8_named 17 = .ok (.iload_n 3, 1) := by decide +kernel
theorem dX8_named_18 : decode cX8_named 18 = .ok (.ireturn, 1) := by decide +kernel
theorem dX8_named_19 : decode cX8_named 19 = .ok (.iinc 3 1, 3) := by decide +kernel
theorem dX8_named_22 : decode cX8_named 22 = .ok (.goto (-20), 3) := by decide +kernel
theorem dX8_named_25 : decode cX8_named 25 = .ok (.iconst (-1), 1) := by decide +kernel
theorem dX8_named_26 : decode cX8_named 26 = .ok (.ireturn, 1) := by decide +kernel
theorem dX8_newName_0 : decode cX8_newName 0 = .ok (.aload_n 0, 1) := by decide +kernel
theorem dX8_newName_1 : decode cX8_newName 1 = .ok (.invokevirtual 175, 3) := by decide +kernel
theorem dX8_newName_4 : decode cX8_newName 4 = .ok (.aload_n 0, 1) := by decide +kernel
theorem dX8_newName_5 : decode cX8_newName 5 = .ok (.getfield 162, 3) := by decide +kernel
theorem dX8_newName_8 : decode cX8_newName 8 = .ok (.ifCond .ne 15, 3) := by decide +kernel
theorem dX8_newName_11 : decode cX8_newName 11 = .ok (.aload_n 0, 1) := by decide +kernel
theorem dX8_newName_12 : decode cX8_newName 12 = .ok (.invokevirtual 178, 3) := by decide +kernel
theorem dX8_newName_15 : decode cX8_newName 15 = .ok (.ifCond .ne 8, 3) := by decide +kernel
theorem dX8_newName_18 : decode cX8_newName 18 = .ok (.aload_n 0, 1) := by decide +kernel
theorem dX8_newName_19 : decode cX8_newName 19 = .ok (.iconst 1, 1) := by decide +kernel
theorem dX8_newName_20 : decode cX8_newName 20 = .ok (.invokevirtual 171, 3) := by decide +kernel
theorem dX8_newName_23 : decode cX8_newName 23 = .ok (.aload_n 0, 1) := by decide +kernel
theorem dX8_newName_24 : decode cX8_newName 24 = .ok (.getfield 162, 3) := by decide +kernel
theorem dX8_newName_27 : decode cX8_newName 27 = .ok (.ifCond .ne 56, 3) := by decide +kernel
theorem dX8_newName_30 : decode cX8_newName 30 = .ok (.aload_n 0, 1) := by decide +kernel
theorem dX8_newName_31 : decode cX8_newName 31 = .ok (.aload_n 0, 1) := by decide +kernel
theorem dX8_newName_32 : decode cX8_newName 32 = .ok (.getfield 47, 3) := by decide +kernel
theorem dX8_newName_35 : decode cX8_newName 35 = .ok (.aload_n 0, 1) := by decide +kernel
theorem dX8_newName_36 : decode cX8_newName 36 = .ok (.getfield 182, 3) := by decide +kernel
theorem dX8_newName_39 : decode cX8_newName 39 = .ok (.invokevirtual 185, 3) := by decide +kernel
theorem dX8_newName_42 : decode cX8_newName 42 = .ok (.iconst (-1), 1) := by decide +kernel
theorem dX8_newName_43 : decode cX8_newName 43 = .ok (.if_icmp .ne 35, 3) := by decide +kernel
theorem dX8_newName_46 : decode cX8_newName 46 = .ok (.aload_n 0, 1) := by decide +kernel
theorem dX8_newName_47 : decode cX8_newName 47 = .ok (.aload_n 0, 1) := by decide +kernel
theorem dX8_newName_48 : decode cX8_newName 48 = .ok (.getfield 50, 3) := by decide +kernel
theorem dX8_newName_51 : decode cX8_newName 51 = .ok (.aload_n 0, 1) := by decide +kernel
theorem dX8_newName_52 : decode cX8_newName 52 = .ok (.getfield 189, 3) := by decide +kernel
theorem dX8_newName_55 : decode cX8_newName 55 = .ok (.invokevirtual 185, 3) := by decide +kernel
theorem dX8_newName_58 : decode cX8_newName 58 = .ok (.iconst (-1), 1) := by decide +kernel
theorem dX8_newName_59 : decode cX8_newName 59 = .ok (.if_icmp .ne 19, 3) := by decide +kernel
theorem dX8_newName_62 : decode cX8_newName 62 = .ok (.aload_n 0, 1) := by decide +kernel
theorem dX8_newName_63 : decode cX8_newName 63 = .ok (.aload_n 0, 1) := by decide +kernel
theorem dX8_newName_64 : decode cX8_newName 64 = .ok (.getfield 53, 3) := by decide +kernel
theorem dX8_newName_67 : decode cX8_newName 67 = .ok (.aload_n 0, 1) := by decide +kernel
theorem dX8_newName_68 : decode cX8_newName 68 = .ok (.getfield 192, 3) := by decide +kernel
theorem dX8_newName_71 : decode cX8_newName 71 = .ok (.invokevirtual 185, 3) := by decide +kernel
theorem dX8_newName_74 : decode cX8_newName 74 = .ok (.iconst (-1), 1) := by decide +kernel
theorem dX8_newName_75 : decode cX8_newName 75 = .ok (.if_icmp .eq 8, 3) := by decide +kernel
theorem dX8_newName_78 : decode cX8_newName 78 = .ok (.aload_n 0, 1) := by decide +kernel
theorem dX8_newName_79 : decode cX8_newName 79 = .ok (.iconst 3, 1) := by decide +kernel
theorem dX8_newName_80 : decode cX8_newName 80 = .ok (.invokevirtual 171, 3) := by decide +kernel
theorem dX8_newName_83 : decode cX8_newName 83 = .ok (.aload_n 0, 1) := by decide +kernel
theorem dX8_newName_84 : decode cX8_newName 84 = .ok (.getfield 162, 3) := by decide +kernel
theorem dX8_newName_87 : decode cX8_newName 87 = .ok (.ifCond .ne 10, 3) := by decide +kernel
theorem dX8_newName_90 : decode cX8_newName 90 = .ok (.aload_n 1, 1) := by decide +kernel
theorem dX8_newName_91 : decode cX8_newName 91 = .ok (.iload_n 2, 1) := by decide +kernel
theorem dX8_newName_92 : decode cX8_newName 92 = .ok (.aload_n 0, 1) := by decide +kernel
theorem dX8_newName_93 : decode cX8_newName 93 = .ok (.getfield 138, 3) := by decide +kernel
theorem dX8_newName_96 : decode cX8_newName 96 = .ok (.iastore, 1) := by decide +kernel
theorem dX8_newName_97 : decode cX8_newName 97 = .ok (.aload_n 0, 1) := by decide +kernel
theorem dX8_newName_98 : decode cX8_newName 98 = .ok (.invokevirtual 175, 3) := by decide +kernel
theorem dX8_newName_101 : decode cX8_newName 101 = .ok (.return_, 1) := by decide +kernel
theorem dX8_seen_0 : decode cX8_seen 0 = .ok (.aload_n 0, 1) := by decide +kernel
theorem dX8_seen_1 : decode cX8_seen 1 = .ok (.invokevirtual 178, 3) := by decide +kernel
theorem dX8_seen_4 : decode cX8_seen 4 = .ok (.ifCond .eq 12, 3) := by decide +kernel
theorem dX8_seen_7 : decode cX8_seen 7 = .ok (.aload_n 0, 1) := by decide +kernel
theorem dX8_seen_8 : decode cX8_seen 8 = .ok (.aload_n 1, 1) := by decide +kernel
theorem dX8_seen_9 : decode cX8_seen 9 = .ok (.iload_n 2, 1) := by decide +kernel
theorem dX8_seen_10 : decode cX8_seen 10 = .ok (.invokevirtual 185, 3) := by decide +kernel
theorem dX8_seen_13 : decode cX8_seen 13 = .ok (.goto 4, 3) := by decide +kernel
theorem dX8_seen_16 : decode cX8_seen 16 = .ok (.iconst (-1), 1) := by decide +kernel
theorem dX8_seen_17 : decode cX8_seen 17 = .ok (.istore 4, 2) := by decide +kernel
theorem dX8_seen_19 : decode cX8_seen 19 = .ok (.aload_n 0, 1) := by decide +kernel
theorem dX8_seen_20 : decode cX8_seen 20 = .ok (.getfield 162, 3) := by decide +kernel
theorem dX8_seen_23 : decode cX8_seen 23 = .ok (.ifCond .ne 20, 3) := by decide +kernel
theorem dX8_seen_26 : decode cX8_seen 26 = .ok (.iload 4, 2) := by decide +kernel
theorem dX8_seen_28 : decode cX8_seen 28 = .ok (.iconst (-1), 1) := by decide +kernel
theorem dX8_seen_29 : decode cX8_seen 29 = .ok (.if_icmp .eq 9, 3) := by decide +kernel
theorem dX8_seen_32 : decode cX8_seen 32 = .ok (.iload 4, 2) := by decide +kernel
theorem dX8_seen_34 : decode cX8_seen 34 = .ok (.iload_n 3, 1) := by decide +kernel
theorem dX8_seen_35 : decode cX8_seen 35 = .ok (.if_icmp .ne 8, 3) := by decide +kernel
theorem dX8_seen_38 : decode cX8_seen 38 = .ok (.aload_n 0, 1) := by decide +kernel
theorem dX8_seen_39 : decode cX8_seen 39 = .ok (.iconst 1, 1) := by decide +kernel
theorem dX8_seen_40 : decode cX8_seen 40 = .ok (.invokevirtual 171, 3) := by decide +kernel
theorem dX8_seen_43 : decode cX8_seen 43 = .ok (.iload 4, 2) := by decide +kernel
theorem dX8_seen_45 : decode cX8_seen 45 = .ok (.ireturn, 1) := by decide +kernel
theorem dX8_told_0 : decode cX8_told 0 = .ok (.aload_n 0, 1) := by decide +kernel
theorem dX8_told_1 : decode cX8_told 1 = .ok (.aload_n 1, 1) := by decide +kernel
theorem dX8_told_2 : decode cX8_told 2 = .ok (.iload_n 2, 1) := by decide +kernel
theorem dX8_told_3 : decode cX8_told 3 = .ok (.iload_n 3, 1) := by decide +kernel
theorem dX8_told_4 : decode cX8_told 4 = .ok (.invokevirtual 195, 3) := by decide +kernel
theorem dX8_told_7 : decode cX8_told 7 = .ok (.istore 4, 2) := by decide +kernel
theorem dX8_told_9 : decode cX8_told 9 = .ok (.aload_n 0, 1) := by decide +kernel
theorem dX8_told_10 : decode cX8_told 10 = .ok (.invokevirtual 175, 3) := by decide +kernel
theorem dX8_told_13 : decode cX8_told 13 = .ok (.iload 4, 2) := by decide +kernel
theorem dX8_told_15 : decode cX8_told 15 = .ok (.ireturn, 1) := by decide +kernel
theorem dX8_isEnd_0 : decode cX8_isEnd 0 = .ok (.aload_n 0, 1) := by decide +kernel
theorem dX8_isEnd_1 : decode cX8_isEnd 1 = .ok (.getfield 162, 3) := by decide +kernel
theorem dX8_isEnd_4 : decode cX8_isEnd 4 = .ok (.ifCond .ne 16, 3) := by decide +kernel
theorem dX8_isEnd_7 : decode cX8_isEnd 7 = .ok (.aload_n 0, 1) := by decide +kernel
theorem dX8_isEnd_8 : decode cX8_isEnd 8 = .ok (.getfield 131, 3) := by decide +kernel
theorem dX8_isEnd_11 : decode cX8_isEnd 11 = .ok (.iconst 2, 1) := by decide +kernel
theorem dX8_isEnd_12 : decode cX8_isEnd 12 = .ok (.if_icmp .eq 8, 3) := by decide +kernel
theorem dX8_isEnd_15 : decode cX8_isEnd 15 = .ok (.aload_n 0, 1) := by decide +kernel
theorem dX8_isEnd_16 : decode cX8_isEnd 16 = .ok (.iconst 1, 1) := by decide +kernel
theorem dX8_isEnd_17 : decode cX8_isEnd 17 = .ok (.invokevirtual 171, 3) := by decide +kernel
theorem dX8_isEnd_20 : decode cX8_isEnd 20 = .ok (.aload_n 0, 1) := by decide +kernel
theorem dX8_isEnd_21 : decode cX8_isEnd 21 = .ok (.getfield 162, 3) := by decide +kernel
theorem dX8_isEnd_24 : decode cX8_isEnd 24 = .ok (.ifCond .ne 7, 3) := by decide +kernel
theorem dX8_isEnd_27 : decode cX8_isEnd 27 = .ok (.iconst 1, 1) := by decide +kernel
theorem dX8_isEnd_28 : decode cX8_isEnd 28 = .ok (.goto 4, 3) := by decide +kernel
theorem dX8_isEnd_31 : decode cX8_isEnd 31 = .ok (.iconst 0, 1) := by decide +kernel
theorem dX8_isEnd_32 : decode cX8_isEnd 32 = .ok (.ireturn, 1) := by decide +kernel
theorem dX8_isFull_0 : decode cX8_isFull 0 = .ok (.iload_n 1, 1) := by decide +kernel
theorem dX8_isFull_1 : decode cX8_isFull 1 = .ok (.iload_n 2, 1) := by decide +kernel
theorem dX8_isFull_2 : decode cX8_isFull 2 = .ok (.if_icmp .ne 8, 3) := by decide +kernel
theorem dX8_isFull_5 : decode cX8_isFull 5 = .ok (.aload_n 0, 1) := by decide +kernel
theorem dX8_isFull_6 : decode cX8_isFull 6 = .ok (.iconst 2, 1) := by decide +kernel
theorem dX8_isFull_7 : decode cX8_isFull 7 = .ok (.invokevirtual 171, 3) := by decide +kernel
theorem dX8_isFull_10 : decode cX8_isFull 10 = .ok (.iload_n 1, 1) := by decide +kernel
theorem dX8_isFull_11 : decode cX8_isFull 11 = .ok (.iload_n 2, 1) := by decide +kernel
theorem dX8_isFull_12 : decode cX8_isFull 12 = .ok (.if_icmp .ne 7, 3) := by decide +kernel
theorem dX8_isFull_15 : decode cX8_isFull 15 = .ok (.iconst 1, 1) := by decide +kernel
theorem dX8_isFull_16 : decode cX8_isFull 16 = .ok (.goto 4, 3) := by decide +kernel
theorem dX8_isFull_19 : decode cX8_isFull 19 = .ok (.iconst 0, 1) := by decide +kernel
theorem dX8_isFull_20 : decode cX8_isFull 20 = .ok (.ireturn, 1) := by decide +kernel
theorem dX8_readLeg_0 : decode cX8_readLeg 0 = .ok (.aload_n 0, 1) := by decide +kernel
theorem dX8_readLeg_1 : decode cX8_readLeg 1 = .ok (.aload_n 0, 1) := by decide +kernel
theorem dX8_readLeg_2 : decode cX8_readLeg 2 = .ok (.getfield 199, 3) := by decide +kernel
theorem dX8_readLeg_5 : decode cX8_readLeg 5 = .ok (.bipush 24, 2) := by decide +kernel
theorem dX8_readLeg_7 : decode cX8_readLeg 7 = .ok (.invokevirtual 202, 3) := by decide +kernel
theorem dX8_readLeg_10 : decode cX8_readLeg 10 = .ok (.ifCond .eq 4, 3) := by decide +kernel
theorem dX8_readLeg_13 : decode cX8_readLeg 13 = .ok (.return_, 1) := by decide +kernel
theorem dX8_readLeg_14 : decode cX8_readLeg 14 = .ok (.aload_n 0, 1) := by decide +kernel
theorem dX8_readLeg_15 : decode cX8_readLeg 15 = .ok (.invokevirtual 175, 3) := by decide +kernel
theorem dX8_readLeg_18 : decode cX8_readLeg 18 = .ok (.aload_n 0, 1) := by decide +kernel
theorem dX8_readLeg_19 : decode cX8_readLeg 19 = .ok (.aload_n 0, 1) := by decide +kernel
theorem dX8_readLeg_20 : decode cX8_readLeg 20 = .ok (.getfield 47, 3) := by decide +kernel
theorem dX8_readLeg_23 : decode cX8_readLeg 23 = .ok (.aload_n 0, 1) := by decide +kernel
theorem dX8_readLeg_24 : decode cX8_readLeg 24 = .ok (.getfield 182, 3) := by decide +kernel
theorem dX8_readLeg_27 : decode cX8_readLeg 27 = .ok (.iconst (-1), 1) := by decide +kernel
theorem dX8_readLeg_28 : decode cX8_readLeg 28 = .ok (.invokevirtual 206, 3) := by decide +kernel
theorem dX8_readLeg_31 : decode cX8_readLeg 31 = .ok (.istore_n 1, 1) := by decide +kernel
theorem dX8_readLeg_32 : decode cX8_readLeg 32 = .ok (.aload_n 0, 1) := by decide +kernel
theorem dX8_readLeg_33 : decode cX8_readLeg 33 = .ok (.aload_n 0, 1) := by decide +kernel
theorem dX8_readLeg_34 : decode cX8_readLeg 34 = .ok (.getfield 47, 3) := by decide +kernel
theorem dX8_readLeg_37 : decode cX8_readLeg 37 = .ok (.aload_n 0, 1) := by decide +kernel
theorem dX8_readLeg_38 : decode cX8_readLeg 38 = .ok (.getfield 182, 3) := by decide +kernel
theorem dX8_readLeg_41 : decode cX8_readLeg 41 = .ok (.iload_n 1, 1) := by decide +kernel
theorem dX8_readLeg_42 : decode cX8_readLeg 42 = .ok (.invokevirtual 195, 3) := by decide +kernel
theorem dX8_readLeg_45 : decode cX8_readLeg 45 = .ok (.istore_n 2, 1) := by decide +kernel
theorem dX8_readLeg_46 : decode cX8_readLeg 46 = .ok (.iconst 0, 1) := by decide +kernel
theorem dX8_readLeg_47 : decode cX8_readLeg 47 = .ok (.istore_n 3, 1) := by decide +kernel
theorem dX8_readLeg_48 : decode cX8_readLeg 48 = .ok (.aload_n 0, 1) := by decide +kernel
theorem dX8_readLeg_49 : decode cX8_readLeg 49 = .ok (.getfield 162, 3) := by decide +kernel
theorem dX8_readLeg_52 : decode cX8_readLeg 52 = .ok (.ifCond .ne 48, 3) := by decide +kernel
theorem dX8_readLeg_55 : decode cX8_readLeg 55 = .ok (.iload_n 3, 1) := by decide +kernel
theorem dX8_readLeg_56 : decode cX8_readLeg 56 = .ok (.aload_n 0, 1) := by decide +kernel
theorem dX8_readLeg_57 : decode cX8_readLeg 57 = .ok (.getfield 199, 3) := by decide +kernel
theorem dX8_readLeg_60 : decode cX8_readLeg 60 = .ok (.if_icmp .ge 40, 3) := by decide +kernel
theorem dX8_readLeg_63 : decode cX8_readLeg 63 = .ok (.aload_n 0, 1) := by decide +kernel
theorem dX8_readLeg_64 : decode cX8_readLeg 64 = .ok (.getfield 13, 3) := by decide +kernel
theorem dX8_readLeg_67 : decode cX8_readLeg 67 = .ok (.iconst 3, 1) := by decide +kernel
theorem dX8_readLeg_68 : decode cX8_readLeg 68 = .ok (.iload_n 3, 1) := by decide +kernel
theorem dX8_readLeg_69 : decode cX8_readLeg 69 = .ok (.imul, 1) := by decide +kernel
theorem dX8_readLeg_70 : decode cX8_readLeg 70 = .ok (.iaload, 1) := by decide +kernel
theorem dX8_readLeg_71 : decode cX8_readLeg 71 = .ok (.aload_n 0, 1) := by decide +kernel
theorem dX8_readLeg_72 : decode cX8_readLeg 72 = .ok (.getfield 13, 3) := by decide +kernel
theorem dX8_readLeg_75 : decode cX8_readLeg 75 = .ok (.iconst 3, 1) := by decide +kernel
theorem dX8_readLeg_76 : decode cX8_readLeg 76 = .ok (.iload_n 3, 1) := by decide +kernel
theorem dX8_readLeg_77 : decode cX8_readLeg 77 = .ok (.imul, 1) := by decide +kernel
theorem dX8_readLeg_78 : decode cX8_readLeg 78 = .ok (.iconst 1, 1) := by decide +kernel
theorem dX8_readLeg_79 : decode cX8_readLeg 79 = .ok (.iadd, 1) := by decide +kernel
theorem dX8_readLeg_80 : decode cX8_readLeg 80 = .ok (.iaload, 1) := by decide +kernel
theorem dX8_readLeg_81 : decode cX8_readLeg 81 = .ok (.iload_n 1, 1) := by decide +kernel
theorem dX8_readLeg_82 : decode cX8_readLeg 82 = .ok (.iload_n 2, 1) := by decide +kernel
theorem dX8_readLeg_83 : decode cX8_readLeg 83 = .ok (.invokestatic 209, 3) := by decide +kernel
theorem dX8_readLeg_86 : decode cX8_readLeg 86 = .ok (.ifCond .eq 8, 3) := by decide +kernel
theorem dX8_readLeg_89 : decode cX8_readLeg 89 = .ok (.aload_n 0, 1) := by decide +kernel
theorem dX8_readLeg_90 : decode cX8_readLeg 90 = .ok (.iconst 3, 1) := by decide +kernel
theorem dX8_readLeg_91 : decode cX8_readLeg 91 = .ok (.invokevirtual 171, 3) := by decide +kernel
theorem dX8_readLeg_94 : decode cX8_readLeg 94 = .ok (.iinc 3 1, 3) := by decide +kernel
theorem dX8_readLeg_97 : decode cX8_readLeg 97 = .ok (.goto (-49), 3) := by decide +kernel
theorem dX8_readLeg_100 : decode cX8_readLeg 100 = .ok (.aload_n 0, 1) := by decide +kernel
theorem dX8_readLeg_101 : decode cX8_readLeg 101 = .ok (.invokevirtual 175, 3) := by decide +kernel
theorem dX8_readLeg_104 : decode cX8_readLeg 104 = .ok (.aload_n 0, 1) := by decide +kernel
theorem dX8_readLeg_105 : decode cX8_readLeg 105 = .ok (.iconst 1, 1) := by decide +kernel
theorem dX8_readLeg_106 : decode cX8_readLeg 106 = .ok (.sipush 9999, 3) := by decide +kernel
theorem dX8_readLeg_109 : decode cX8_readLeg 109 = .ok (.invokevirtual 213, 3) := by decide +kernel
theorem dX8_readLeg_112 : decode cX8_readLeg 112 = .ok (.istore_n 3, 1) := by decide +kernel
theorem dX8_readLeg_113 : decode cX8_readLeg 113 = .ok (.aload_n 0, 1) := by decide +kernel
theorem dX8_readLeg_114 : decode cX8_readLeg 114 = .ok (.invokevirtual 217, 3) := by decide +kernel
theorem dX8_readLeg_117 : decode cX8_readLeg 117 = .ok (.ifCond .ne 4, 3) := by decide +kernel
theorem dX8_readLeg_120 : decode cX8_readLeg 120 = .ok (.return_, 1) := by decide +kernel
theorem dX8_readLeg_121 : decode cX8_readLeg 121 = .ok (.aload_n 0, 1) := by decide +kernel
theorem dX8_readLeg_122 : decode cX8_readLeg 122 = .ok (.getfield 13, 3) := by decide +kernel
theorem dX8_readLeg_125 : decode cX8_readLeg 125 = .ok (.iconst 3, 1) := by decide +kernel
theorem dX8_readLeg_126 : decode cX8_readLeg 126 = .ok (.aload_n 0, 1) := by decide +kernel
theorem dX8_readLeg_127 : decode cX8_readLeg 127 = .ok (.getfield 199, 3) := by decide +kernel
theorem dX8_readLeg_130 : decode cX8_readLeg 130 = .ok (.imul, 1) := by decide +kernel
theorem dX8_readLeg_131 : decode cX8_readLeg 131 = .ok (.iload_n 1, 1) := by decide +kernel
theorem dX8_readLeg_132 : decode cX8_readLeg 132 = .ok (.iastore, 1) := by decide +kernel
theorem dX8_readLeg_133 : decode cX8_readLeg 133 = .ok (.aload_n 0, 1) := by decide +kernel
theorem dX8_readLeg_134 : decode cX8_readLeg 134 = .ok (.getfield 13, 3) := by decide +kernel
theorem dX8_readLeg_137 : decode cX8_readLeg 137 = .ok (.iconst 3, 1) := by decide +kernel
theorem dX8_readLeg_138 : decode cX8_readLeg 138 = .ok (.aload_n 0, 1) := by decide +kernel
theorem dX8_readLeg_139 : decode cX8_readLeg 139 = .ok (.getfield 199, 3) := by decide +kernel
theorem dX8_readLeg_142 : decode cX8_readLeg 142 = .ok (.imul, 1) := by decide +kernel
theorem dX8_readLeg_143 : decode cX8_readLeg 143 = .ok (.iconst 1, 1) := by decide +kernel
theorem dX8_readLeg_144 : decode cX8_readLeg 144 = .ok (.iadd, 1) := by decide +kernel
theorem dX8_readLeg_145 : decode cX8_readLeg 145 = .ok (.iload_n 2, 1) := by decide +kernel
theorem dX8_readLeg_146 : decode cX8_readLeg 146 = .ok (.iastore, 1) := by decide +kernel
theorem dX8_readLeg_147 : decode cX8_readLeg 147 = .ok (.aload_n 0, 1) := by decide +kernel
theorem dX8_readLeg_148 : decode cX8_readLeg 148 = .ok (.getfield 13, 3) := by decide +kernel
theorem dX8_readLeg_151 : decode cX8_readLeg 151 = .ok (.iconst 3, 1) := by decide +kernel
theorem dX8_readLeg_152 : decode cX8_readLeg 152 = .ok (.aload_n 0, 1) := by decide +kernel
theorem dX8_readLeg_153 : decode cX8_readLeg 153 = .ok (.getfield 199, 3) := by decide +kernel
theorem dX8_readLeg_156 : decode cX8_readLeg 156 = .ok (.imul, 1) := by decide +kernel
theorem dX8_readLeg_157 : decode cX8_readLeg 157 = .ok (.iconst 2, 1) := by decide +kernel
theorem dX8_readLeg_158 : decode cX8_readLeg 158 = .ok (.iadd, 1) := by decide +kernel
theorem dX8_readLeg_159 : decode cX8_readLeg 159 = .ok (.iload_n 3, 1) := by decide +kernel
theorem dX8_readLeg_160 : decode cX8_readLeg 160 = .ok (.iastore, 1) := by decide +kernel
theorem dX8_readLeg_161 : decode cX8_readLeg 161 = .ok (.aload_n 0, 1) := by decide +kernel
theorem dX8_readLeg_162 : decode cX8_readLeg 162 = .ok (.dup, 1) := by decide +kernel
theorem dX8_readLeg_163 : decode cX8_readLeg 163 = .ok (.getfield 199, 3) := by decide +kernel
theorem dX8_readLeg_166 : decode cX8_readLeg 166 = .ok (.iconst 1, 1) := by decide +kernel
theorem dX8_readLeg_167 : decode cX8_readLeg 167 = .ok (.iadd, 1) := by decide +kernel
theorem dX8_readLeg_168 : decode cX8_readLeg 168 = .ok (.putfield 199, 3) := by decide +kernel
theorem dX8_readLeg_171 : decode cX8_readLeg 171 = .ok (.return_, 1) := by decide +kernel
theorem dX8_arePair_0 : decode cX8_arePair 0 = .ok (.iload_n 0, 1) := by decide +kernel
theorem dX8_arePair_1 : decode cX8_arePair 1 = .ok (.iload_n 2, 1) := by decide +kernel
theorem dX8_arePair_2 : decode cX8_arePair 2 = .ok (.if_icmp .ne 8, 3) := by decide +kernel
theorem dX8_arePair_5 : decode cX8_arePair 5 = .ok (.iload_n 1, 1) := by decide +kernel
theorem dX8_arePair_6 : decode cX8_arePair 6 = .ok (.iload_n 3, 1) := by decide +kernel
theorem dX8_arePair_7 : decode cX8_arePair 7 = .ok (.if_icmp .eq 13, 3) := by decide +kernel
theorem dX8_arePair_10 : decode cX8_arePair 10 = .ok (.iload_n 0, 1) := by decide +kernel
theorem dX8_arePair_11 : decode cX8_arePair 11 = .ok (.iload_n 3, 1) := by decide +kernel
theorem dX8_arePair_12 : decode cX8_arePair 12 = .ok (.if_icmp .ne 12, 3) := by decide +kernel
theorem dX8_arePair_15 : decode cX8_arePair 15 = .ok (.iload_n 1, 1) := by decide +kernel
theorem dX8_arePair_16 : decode cX8_arePair 16 = .ok (.iload_n 2, 1) := by decide +kernel
theorem dX8_arePair_17 : decode cX8_arePair 17 = .ok (.if_icmp .ne 7, 3) := by decide +kernel
theorem dX8_arePair_20 : decode cX8_arePair 20 = .ok (.iconst 1, 1) := by decide +kernel
theorem dX8_arePair_21 : decode cX8_arePair 21 = .ok (.goto 4, 3) := by decide +kernel
theorem dX8_arePair_24 : decode cX8_arePair 24 = .ok (.iconst 0, 1) := by decide +kernel
theorem dX8_arePair_25 : decode cX8_arePair 25 = .ok (.ireturn, 1) := by decide +kernel
theorem dX8_readBand_0 : decode cX8_readBand 0 = .ok (.aload_n 0, 1) := by decide +kernel
theorem dX8_readBand_1 : decode cX8_readBand 1 = .ok (.aload_n 0, 1) := by decide +kernel
theorem dX8_readBand_2 : decode cX8_readBand 2 = .ok (.getfield 220, 3) := by decide +kernel
theorem dX8_readBand_5 : decode cX8_readBand 5 = .ok (.iconst 5, 1) := by decide +kernel
theorem dX8_readBand_6 : decode cX8_readBand 6 = .ok (.invokevirtual 202, 3) := by decide +kernel
theorem dX8_readBand_9 : decode cX8_readBand 9 = .ok (.ifCond .eq 4, 3) := by decide +kernel
theorem dX8_readBand_12 : decode cX8_readBand 12 = .ok (.return_, 1) := by decide +kernel
theorem dX8_readBand_13 : decode cX8_readBand 13 = .ok (.aload_n 0, 1) := by decide +kernel
theorem dX8_readBand_14 : decode cX8_readBand 14 = .ok (.invokevirtual 175, 3) := by decide +kernel
theorem dX8_readBand_17 : decode cX8_readBand 17 = .ok (.aload_n 0, 1) := by decide +kernel
theorem dX8_readBand_18 : decode cX8_readBand 18 = .ok (.aload_n 0, 1) := by decide +kernel
theorem dX8_readBand_19 : decode cX8_readBand 19 = .ok (.getfield 220, 3) := by decide +kernel
theorem dX8_readBand_22 : decode cX8_readBand 22 = .ok (.ifCond .ne 7, 3) := by decide +kernel
theorem dX8_readBand_25 : decode cX8_readBand 25 = .ok (.iconst 1, 1) := by decide +kernel
theorem dX8_readBand_26 : decode cX8_readBand 26 = .ok (.goto 18, 3) := by decide +kernel
theorem dX8_readBand_29 : decode cX8_readBand 29 = .ok (.aload_n 0, 1) := by decide +kernel
theorem dX8_readBand_30 : decode cX8_readBand 30 = .ok (.getfield 16, 3) := by decide +kernel
theorem dX8_readBand_33 : decode cX8_readBand 33 = .ok (.iconst 2, 1) := by decide +kernel
theorem dX8_readBand_34 : decode cX8_readBand 34 = .ok (.aload_n 0, 1) := by decide +kernel
theorem dX8_readBand_35 : decode cX8_readBand 35 = .ok (.getfield 220, 3) := by decide +kernel
theorem dX8_readBand_38 : decode cX8_readBand 38 = .ok (.imul, 1) := by decide +kernel
theorem dX8_readBand_39 : decode cX8_readBand 39 = .ok (.iconst 2, 1) := by decide +kernel
theorem dX8_readBand_40 : decode cX8_readBand 40 = .ok (.isub, 1) := by decide +kernel
theorem dX8_readBand_41 : decode cX8_readBand 41 = .ok (.iaload, 1) := by decide +kernel
theorem dX8_readBand_42 : decode cX8_readBand 42 = .ok (.iconst 1, 1) := by decide +kernel
theorem dX8_readBand_43 : decode cX8_readBand 43 = .ok (.iadd, 1) := by decide +kernel
theorem dX8_readBand_44 : decode cX8_readBand 44 = .ok (.sipush 9999, 3) := by decide +kernel
theorem dX8_readBand_47 : decode cX8_readBand 47 = .ok (.invokevirtual 213, 3) := by decide +kernel
theorem dX8_readBand_50 : decode cX8_readBand 50 = .ok (.istore_n 1, 1) := by decide +kernel
theorem dX8_readBand_51 : decode cX8_readBand 51 = .ok (.aload_n 0, 1) := by decide +kernel
theorem dX8_readBand_52 : decode cX8_readBand 52 = .ok (.iconst 1, 1) := by decide +kernel
theorem dX8_readBand_53 : decode cX8_readBand 53 = .ok (.sipush 999, 3) := by decide +kernel
theorem dX8_readBand_56 : decode cX8_readBand 56 = .ok (.invokevirtual 213, 3) := by decide +kernel
theorem dX8_readBand_59 : decode cX8_readBand 59 = .ok (.istore_n 2, 1) := by decide +kernel
theorem dX8_readBand_60 : decode cX8_readBand 60 = .ok (.aload_n 0, 1) := by decide +kernel
theorem dX8_readBand_61 : decode cX8_readBand 61 = .ok (.invokevirtual 217, 3) := by decide +kernel
theorem dX8_readBand_64 : decode cX8_readBand 64 = .ok (.ifCond .ne 4, 3) := by decide +kernel
theorem dX8_readBand_67 : decode cX8_readBand 67 = .ok (.return_, 1) := by decide +kernel
theorem dX8_readBand_68 : decode cX8_readBand 68 = .ok (.aload_n 0, 1) := by decide +kernel
theorem dX8_readBand_69 : decode cX8_readBand 69 = .ok (.getfield 16, 3) := by decide +kernel
theorem dX8_readBand_72 : decode cX8_readBand 72 = .ok (.iconst 2, 1) := by decide +kernel
theorem dX8_readBand_73 : decode cX8_readBand 73 = .ok (.aload_n 0, 1) := by decide +kernel
theorem dX8_readBand_74 : decode cX8_readBand 74 = .ok (.getfield 220, 3) := by decide +kernel
theorem dX8_readBand_77 : decode cX8_readBand 77 = .ok (.imul, 1) := by decide +kernel
theorem dX8_readBand_78 : decode cX8_readBand 78 = .ok (.iload_n 1, 1) := by decide +kernel
theorem dX8_readBand_79 : decode cX8_readBand 79 = .ok (.iastore, 1) := by decide +kernel
theorem dX8_readBand_80 : decode cX8_readBand 80 = .ok (.aload_n 0, 1) := by decide +kernel
theorem dX8_readBand_81 : decode cX8_readBand 81 = .ok (.getfield 16, 3) := by decide +kernel
theorem dX8_readBand_84 : decode cX8_readBand 84 = .ok (.iconst 2, 1) := by decide +kernel
theorem dX8_readBand_85 : decode cX8_readBand 85 = .ok (.aload_n 0, 1) := by decide +kernel
theorem dX8_readBand_86 : decode cX8_readBand 86 = .ok (.getfield 220, 3) := by decide +kernel
theorem dX8_readBand_89 : decode cX8_readBand 89 = .ok (.imul, 1) := by decide +kernel
theorem dX8_readBand_90 : decode cX8_readBand 90 = .ok (.iconst 1, 1) := by decide +kernel
theorem dX8_readBand_91 : decode cX8_readBand 91 = .ok (.iadd, 1) := by decide +kernel
theorem dX8_readBand_92 : decode cX8_readBand 92 = .ok (.iload_n 2, 1) := by decide +kernel
theorem dX8_readBand_93 : decode cX8_readBand 93 = .ok (.iastore, 1) := by decide +kernel
theorem dX8_readBand_94 : decode cX8_readBand 94 = .ok (.aload_n 0, 1) := by decide +kernel
theorem dX8_readBand_95 : decode cX8_readBand 95 = .ok (.dup, 1) := by decide +kernel
theorem dX8_readBand_96 : decode cX8_readBand 96 = .ok (.getfield 220, 3) := by decide +kernel
theorem dX8_readBand_99 : decode cX8_readBand 99 = .ok (.iconst 1, 1) := by decide +kernel
theorem dX8_readBand_100 : decode cX8_readBand 100 = .ok (.iadd, 1) := by decide +kernel
theorem dX8_readBand_101 : decode cX8_readBand 101 = .ok (.putfield 220, 3) := by decide +kernel
theorem dX8_readBand_104 : decode cX8_readBand 104 = .ok (.return_, 1) := by decide +kernel
theorem dX8_readProviso_0 : decode cX8_readProviso 0 = .ok (.aload_n 0, 1) := by decide +kernel
theorem dX8_readProviso_1 : decode cX8_readProviso 1 = .ok (.aload_n 0, 1) := by decide +kernel
theorem dX8_readProviso_2 : decode cX8_readProviso 2 = .ok (.getfield 223, 3) := by decide +kernel
theorem dX8_readProviso_5 : decode cX8_readProviso 5 = .ok (.bipush 16, 2) := by decide +kernel
theorem dX8_readProviso_7 : decode cX8_readProviso 7 = .ok (.invokevirtual 202, 3) := by decide +kernel
theorem dX8_readProviso_10 : decode cX8_readProviso 10 = .ok (.ifCond .eq 4, 3) := by decide +kernel
theorem dX8_readProviso_13 : decode cX8_readProviso 13 = .ok (.return_, 1) := by decide +kernel
theorem dX8_readProviso_14 : decode cX8_readProviso 14 = .ok (.aload_n 0, 1) := by decide +kernel
theorem dX8_readProviso_15 : decode cX8_readProviso 15 = .ok (.invokevirtual 175, 3) := by decide +kernel
theorem dX8_readProviso_18 : decode cX8_readProviso 18 = .ok (.bipush 6, 2) := by decide +kernel
theorem dX8_readProviso_20 : decode cX8_readProviso 20 = .ok (.aload_n 0, 1) := by decide +kernel
theorem dX8_readProviso_21 : decode cX8_readProviso 21 = .ok (.getfield 223, 3) := by decide +kernel
theorem dX8_readProviso_24 : decode cX8_readProviso 24 = .ok (.imul, 1) := by decide +kernel
theorem dX8_readProviso_25 : decode cX8_readProviso 25 = .ok (.istore_n 1, 1) := by decide +kernel
theorem dX8_readProviso_26 : decode cX8_readProviso 26 = .ok (.aload_n 0, 1) := by decide +kernel
theorem dX8_readProviso_27 : decode cX8_readProviso 27 = .ok (.aload_n 0, 1) := by decide +kernel
theorem dX8_readProviso_28 : decode cX8_readProviso 28 = .ok (.getfield 50, 3) := by decide +kernel
theorem dX8_readProviso_31 : decode cX8_readProviso 31 = .ok (.aload_n 0, 1) := by decide +kernel
theorem dX8_readProviso_32 : decode cX8_readProviso 32 = .ok (.getfield 189, 3) := by decide +kernel
theorem dX8_readProviso_35 : decode cX8_readProviso 35 = .ok (.iconst (-1), 1) := by decide +kernel
theorem dX8_readProviso_36 : decode cX8_readProviso 36 = .ok (.invokevirtual 206, 3) := by decide +kernel
theorem dX8_readProviso_39 : decode cX8_readProviso 39 = .ok (.istore_n 2, 1) := by decide +kernel
theorem dX8_readProviso_40 : decode cX8_readProviso 40 = .ok (.bipush (-2), 2) := by decide +kernel
theorem dX8_readProviso_42 : decode cX8_readProviso 42 = .ok (.istore_n 3, 1) := by decide +kernel
theorem dX8_readProviso_43 : decode cX8_readProviso 43 = .ok (.bipush (-2), 2) := by decide +kernel
theorem dX8_readProviso_45 : decode cX8_readProviso 45 = .ok (.istore 4, 2) := by decide +kernel
theorem dX8_readProviso_47 : decode cX8_readProviso 47 = .ok (.aload_n 0, 1) := by decide +kernel
theorem dX8_readProviso_48 : decode cX8_readProviso 48 = .ok (.bipush 8, 2) := by decide +kernel
theorem dX8_readProviso_50 : decode cX8_readProviso 50 = .ok (.invokevirtual 226, 3) := by decide +kernel
theorem dX8_readProviso_53 : decode cX8_readProviso 53 = .ok (.ifCond .eq 10, 3) := by decide +kernel
theorem dX8_readProviso_56 : decode cX8_readProviso 56 = .ok (.aload_n 0, 1) := by decide +kernel
theorem dX8_readProviso_57 : decode cX8_readProviso 57 = .ok (.invokevirtual 175, 3) := by decide +kernel
theorem dX8_readProviso_60 : decode cX8_readProviso 60 = .ok (.goto 32, 3) := by decide +kernel
theorem dX8_readProviso_63 : decode cX8_readProviso 63 = .ok (.aload_n 0, 1) := by decide +kernel
theorem dX8_readProviso_64 : decode cX8_readProviso 64 = .ok (.aload_n 0, 1) := by decide +kernel
theorem dX8_readProviso_65 : decode cX8_readProviso 65 = .ok (.getfield 47, 3) := by decide +kernel
theorem dX8_readProviso_68 : decode cX8_readProviso 68 = .ok (.aload_n 0, 1) := by decide +kernel
theorem dX8_readProviso_69 : decode cX8_readProviso 69 = .ok (.getfield 182, 3) := by decide +kernel
theorem dX8_readProviso_72 : decode cX8_readProviso 72 = .ok (.iconst (-1), 1) := by decide +kernel
theorem dX8_readProviso_73 : decode cX8_readProviso 73 = .ok (.invokevirtual 206, 3) := by decide +kernel
theorem dX8_readProviso_76 : decode cX8_readProviso 76 = .ok (.istore_n 3, 1) := by decide +kernel
theorem dX8_readProviso_77 : decode cX8_readProviso 77 = .ok (.aload_n 0, 1) := by decide +kernel
theorem dX8_readProviso_78 : decode cX8_readProviso 78 = .ok (.aload_n 0, 1) := by decide +kernel
theorem dX8_readProviso_79 : decode cX8_readProviso 79 = .ok (.getfield 47, 3) := by decide +kernel
theorem dX8_readProviso_82 : decode cX8_readProviso 82 = .ok (.aload_n 0, 1) := by decide +kernel
theorem dX8_readProviso_83 : decode cX8_readProviso 83 = .ok (.getfield 182, 3) := by decide +kernel
theorem dX8_readProviso_86 : decode cX8_readProviso 86 = .ok (.iload_n 3, 1) := by decide +kernel
theorem dX8_readProviso_87 : decode cX8_readProviso 87 = .ok (.invokevirtual 206, 3) := by decide +kernel
theorem dX8_readProviso_90 : decode cX8_readProviso 90 = .ok (.istore 4, 2) := by decide +kernel
theorem dX8_readProviso_92 : decode cX8_readProviso 92 = .ok (.aload_n 0, 1) := by decide +kernel
theorem dX8_readProviso_93 : decode cX8_readProviso 93 = .ok (.getfield 162, 3) := by decide +kernel
theorem dX8_readProviso_96 : decode cX8_readProviso 96 = .ok (.ifCond .ne 32, 3) := by decide +kernel
theorem dX8_readProviso_99 : decode cX8_readProviso 99 = .ok (.aload_n 0, 1) := by decide +kernel
theorem dX8_readProviso_100 : decode cX8_readProviso 100 = .ok (.getfield 131, 3) := by decide +kernel
theorem dX8_readProviso_103 : decode cX8_readProviso 103 = .ok (.ifCond .ne 25, 3) := by decide +kernel
theorem dX8_readProviso_106 : decode cX8_readProviso 106 = .ok (.aload_n 0, 1) := by decide +kernel
theorem dX8_readProviso_107 : decode cX8_readProviso 107 = .ok (.getfield 144, 3) := by decide +kernel
theorem dX8_readProviso_110 : decode cX8_readProviso 110 = .ok (.bipush 9, 2) := by decide +kernel
theorem dX8_readProviso_112 : decode cX8_readProviso 112 = .ok (.if_icmp .lt 16, 3) := by decide +kernel
theorem dX8_readProviso_115 : decode cX8_readProviso 115 = .ok (.aload_n 0, 1) := by decide +kernel
theorem dX8_readProviso_116 : decode cX8_readProviso 116 = .ok (.getfield 144, 3) := by decide +kernel
theorem dX8_readProviso_119 : decode cX8_readProviso 119 = .ok (.bipush 13, 2) := by decide +kernel
theorem dX8_readProviso_121 : decode cX8_readProviso 121 = .ok (.if_icmp .ge 7, 3) := by decide +kernel
theorem dX8_readProviso_124 : decode cX8_readProviso 124 = .ok (.iconst 1, 1) := by decide +kernel
theorem dX8_readProviso_125 : decode cX8_readProviso 125 = .ok (.goto 4, 3) := by decide +kernel
theorem dX8_readProviso_128 : decode cX8_readProviso 128 = .ok (.iconst 0, 1) := by decide +kernel
theorem dX8_readProviso_129 : decode cX8_readProviso 129 = .ok (.istore 5, 2) := by decide +kernel
theorem dX8_readProviso_131 : decode cX8_readProviso 131 = .ok (.aload_n 0, 1) := by decide +kernel
theorem dX8_readProviso_132 : decode cX8_readProviso 132 = .ok (.getfield 162, 3) := by decide +kernel
theorem dX8_readProviso_135 : decode cX8_readProviso 135 = .ok (.ifCond .ne 13, 3) := by decide +kernel
theorem dX8_readProviso_138 : decode cX8_readProviso 138 = .ok (.iload 5, 2) := by decide +kernel
theorem dX8_readProviso_140 : decode cX8_readProviso 140 = .ok (.ifCond .ne 8, 3) := by decide +kernel
theorem dX8_readProviso_143 : decode cX8_readProviso 143 = .ok (.aload_n 0, 1) := by decide +kernel
theorem dX8_readProviso_144 : decode cX8_readProviso 144 = .ok (.iconst 1, 1) := by decide +kernel
theorem dX8_readProviso_145 : decode cX8_readProviso 145 = .ok (.invokevirtual 171, 3) := by decide +kernel
theorem dX8_readProviso_148 : decode cX8_readProviso 148 = .ok (.iload 5, 2) := by decide +kernel
theorem dX8_readProviso_150 : decode cX8_readProviso 150 = .ok (.ifCond .eq 15, 3) := by decide +kernel
theorem dX8_readProviso_153 : decode cX8_readProviso 153 = .ok (.aload_n 0, 1) := by decide +kernel
theorem dX8_readProviso_154 : decode cX8_readProviso 154 = .ok (.getfield 144, 3) := by decide +kernel
theorem dX8_readProviso_157 : decode cX8_readProviso 157 = .ok (.bipush 9, 2) := by decide +kernel
theorem dX8_readProviso_159 : decode cX8_readProviso 159 = .ok (.isub, 1) := by decide +kernel
theorem dX8_readProviso_160 : decode cX8_readProviso 160 = .ok (.iconst 1, 1) := by decide +kernel
theorem dX8_readProviso_161 : decode cX8_readProviso 161 = .ok (.iadd, 1) := by decide +kernel
theorem dX8_readProviso_162 : decode cX8_readProviso 162 = .ok (.goto 4, 3) := by decide +kernel
theorem dX8_readProviso_165 : decode cX8_readProviso 165 = .ok (.iconst 0, 1) := by decide +kernel
theorem dX8_readProviso_166 : decode cX8_readProviso 166 = .ok (.istore 6, 2) := by decide +kernel
theorem dX8_readProviso_168 : decode cX8_readProviso 168 = .ok (.aload_n 0, 1) := by decide +kernel
theorem dX8_readProviso_169 : decode cX8_readProviso 169 = .ok (.invokevirtual 175, 3) := by decide +kernel
theorem dX8_readProviso_172 : decode cX8_readProviso 172 = .ok (.aload_n 0, 1) := by decide +kernel
theorem dX8_readProviso_173 : decode cX8_readProviso 173 = .ok (.iconst 1, 1) := by decide +kernel
theorem dX8_readProviso_174 : decode cX8_readProviso 174 = .ok (.iload 6, 2) := by decide +kernel
theorem dX8_readProviso_176 : decode cX8_readProviso 176 = .ok (.iconst 2, 1) := by decide +kernel
theorem dX8_readProviso_177 : decode cX8_readProviso 177 = .ok (.if_icmp .ne 8, 3) := by decide +kernel
theorem dX8_readProviso_180 : decode cX8_readProviso 180 = .ok (.bipush 100, 2) := by decide +kernel
theorem dX8_readProviso_182 : decode cX8_readProviso 182 = .ok (.goto 5, 3) := by decide +kernel
theorem dX8_readProviso_185 : decode cX8_readProviso 185 = .ok (.ldc 229, 2) := by decide +kernel
theorem dX8_readProviso_187 : decode cX8_readProviso 187 = .ok (.invokevirtual 213, 3) := by decide +kernel
theorem dX8_readProviso_190 : decode cX8_readProviso 190 = .ok (.istore 7, 2) := by decide +kernel
theorem dX8_readProviso_192 : decode cX8_readProviso 192 = .ok (.bipush (-2), 2) := by decide +kernel
theorem dX8_readProviso_194 : decode cX8_readProviso 194 = .ok (.istore 8, 2) := by decide +kernel
theorem dX8_readProviso_196 : decode cX8_readProviso 196 = .ok (.aload_n 0, 1) := by decide +kernel
theorem dX8_readProviso_197 : decode cX8_readProviso 197 = .ok (.bipush 13, 2) := by decide +kernel
theorem dX8_readProviso_199 : decode cX8_readProviso 199 = .ok (.invokevirtual 226, 3) := by decide +kernel
theorem dX8_readProviso_202 : decode cX8_readProviso 202 = .ok (.ifCond .eq 22, 3) := by decide +kernel
theorem dX8_readProviso_205 : decode cX8_readProviso 205 = .ok (.aload_n 0, 1) := by decide +kernel
theorem dX8_readProviso_206 : decode cX8_readProviso 206 = .ok (.invokevirtual 175, 3) := by decide +kernel
theorem dX8_readProviso_209 : decode cX8_readProviso 209 = .ok (.aload_n 0, 1) := by decide +kernel
theorem dX8_readProviso_210 : decode cX8_readProviso 210 = .ok (.aload_n 0, 1) := by decide +kernel
theorem dX8_readProviso_211 : decode cX8_readProviso 211 = .ok (.getfield 50, 3) := by decide +kernel
theorem dX8_readProviso_214 : decode cX8_readProviso 214 = .ok (.aload_n 0, 1) := by decide +kernel
theorem dX8_readProviso_215 : decode cX8_readProviso 215 = .ok (.getfield 189, 3) := by decide +kernel
theorem dX8_readProviso_218 : decode cX8_readProviso 218 = .ok (.iload_n 2, 1) := by decide +kernel
theorem dX8_readProviso_219 : decode cX8_readProviso 219 = .ok (.invokevirtual 206, 3) := by decide +kernel
theorem dX8_readProviso_222 : decode cX8_readProviso 222 = .ok (.istore 8, 2) := by decide +kernel
theorem dX8_readProviso_224 : decode cX8_readProviso 224 = .ok (.aload_n 0, 1) := by decide +kernel
theorem dX8_readProviso_225 : decode cX8_readProviso 225 = .ok (.invokevirtual 217, 3) := by decide +kernel
theorem dX8_readProviso_228 : decode cX8_readProviso 228 = .ok (.ifCond .ne 4, 3) := by decide +kernel
theorem dX8_readProviso_231 : decode cX8_readProviso 231 = .ok (.return_, 1) := by decide +kernel
theorem dX8_readProviso_232 : decode cX8_readProviso 232 = .ok (.aload_n 0, 1) := by decide +kernel
theorem dX8_readProviso_233 : decode cX8_readProviso 233 = .ok (.getfield 19, 3) := by decide +kernel
theorem dX8_readProviso_236 : decode cX8_readProviso 236 = .ok (.iload_n 1, 1) := by decide +kernel
theorem dX8_readProviso_237 : decode cX8_readProviso 237 = .ok (.iload_n 2, 1) := by decide +kernel
theorem dX8_readProviso_238 : decode cX8_readProviso 238 = .ok (.iastore, 1) := by decide +kernel
theorem dX8_readProviso_239 : decode cX8_readProviso 239 = .ok (.aload_n 0, 1) := by decide +kernel
theorem dX8_readProviso_240 : decode cX8_readProviso 240 = .ok (.getfield 19, 3) := by decide +kernel
theorem dX8_readProviso_243 : decode cX8_readProviso 243 = .ok (.iload_n 1, 1) := by decide +kernel
theorem dX8_readProviso_244 : decode cX8_readProviso 244 = .ok (.iconst 1, 1) := by decide +kernel
theorem dX8_readProviso_245 : decode cX8_readProviso 245 = .ok (.iadd, 1) := by decide +kernel
theorem dX8_readProviso_246 : decode cX8_readProviso 246 = .ok (.iload_n 3, 1) := by decide +kernel
theorem dX8_readProviso_247 : decode cX8_readProviso 247 = .ok (.iastore, 1) := by decide +kernel
theorem dX8_readProviso_248 : decode cX8_readProviso 248 = .ok (.aload_n 0, 1) := by decide +kernel
theorem dX8_readProviso_249 : decode cX8_readProviso 249 = .ok (.getfield 19, 3) := by decide +kernel
theorem dX8_readProviso_252 : decode cX8_readProviso 252 = .ok (.iload_n 1, 1) := by decide +kernel
theorem dX8_readProviso_253 : decode cX8_readProviso 253 = .ok (.iconst 2, 1) := by decide +kernel
theorem dX8_readProviso_254 : decode cX8_readProviso 254 = .ok (.iadd, 1) := by decide +kernel
theorem dX8_readProviso_255 : decode cX8_readProviso 255 = .ok (.iload 4, 2) := by decide +kernel
theorem dX8_readProviso_257 : decode cX8_readProviso 257 = .ok (.iastore, 1) := by decide +kernel
theorem dX8_readProviso_258 : decode cX8_readProviso 258 = .ok (.aload_n 0, 1) := by decide +kernel
theorem dX8_readProviso_259 : decode cX8_readProviso 259 = .ok (.getfield 19, 3) := by decide +kernel
theorem dX8_readProviso_262 : decode cX8_readProviso 262 = .ok (.iload_n 1, 1) := by decide +kernel
theorem dX8_readProviso_263 : decode cX8_readProviso 263 = .ok (.iconst 3, 1) := by decide +kernel
theorem dX8_readProviso_264 : decode cX8_readProviso 264 = .ok (.iadd, 1) := by decide +kernel
theorem dX8_readProviso_265 : decode cX8_readProviso 265 = .ok (.iload 6, 2) := by decide +kernel
theorem dX8_readProviso_267 : decode cX8_readProviso 267 = .ok (.iastore, 1) := by decide +kernel
theorem dX8_readProviso_268 : decode cX8_readProviso 268 = .ok (.aload_n 0, 1) := by decide +kernel
theorem dX8_readProviso_269 : decode cX8_readProviso 269 = .ok (.getfield 19, 3) := by decide +kernel
theorem dX8_readProviso_272 : decode cX8_readProviso 272 = .ok (.iload_n 1, 1) := by decide +kernel
theorem dX8_readProviso_273 : decode cX8_readProviso 273 = .ok (.iconst 4, 1) := by decide +kernel
theorem dX8_readProviso_274 : decode cX8_readProviso 274 = .ok (.iadd, 1) := by decide +kernel
theorem dX8_readProviso_275 : decode cX8_readProviso 275 = .ok (.iload 7, 2) := by decide +kernel
theorem dX8_readProviso_277 : decode cX8_readProviso 277 = .ok (.iastore, 1) := by decide +kernel
theorem dX8_readProviso_278 : decode cX8_readProviso 278 = .ok (.aload_n 0, 1) := by decide +kernel
theorem dX8_readProviso_279 : decode cX8_readProviso 279 = .ok (.getfield 19, 3) := by decide +kernel
theorem dX8_readProviso_282 : decode cX8_readProviso 282 = .ok (.iload_n 1, 1) := by decide +kernel
theorem dX8_readProviso_283 : decode cX8_readProviso 283 = .ok (.iconst 5, 1) := by decide +kernel
theorem dX8_readProviso_284 : decode cX8_readProviso 284 = .ok (.iadd, 1) := by decide +kernel
theorem dX8_readProviso_285 : decode cX8_readProviso 285 = .ok (.iload 8, 2) := by decide +kernel
theorem dX8_readProviso_287 : decode cX8_readProviso 287 = .ok (.iastore, 1) := by decide +kernel
theorem dX8_readProviso_288 : decode cX8_readProviso 288 = .ok (.aload_n 0, 1) := by decide +kernel
theorem dX8_readProviso_289 : decode cX8_readProviso 289 = .ok (.dup, 1) := by decide +kernel
theorem dX8_readProviso_290 : decode cX8_readProviso 290 = .ok (.getfield 223, 3) := by decide +kernel
theorem dX8_readProviso_293 : decode cX8_readProviso 293 = .ok (.iconst 1, 1) := by decide +kernel
theorem dX8_readProviso_294 : decode cX8_readProviso 294 = .ok (.iadd, 1) := by decide +kernel
theorem dX8_readProviso_295 : decode cX8_readProviso 295 = .ok (.putfield 223, 3) := by decide +kernel
theorem dX8_readProviso_298 : decode cX8_readProviso 298 = .ok (.return_, 1) := by decide +kernel
theorem dX8_readBase_0 : decode cX8_readBase 0 = .ok (.aload_n 0, 1) := by decide +kernel
theorem dX8_readBase_1 : decode cX8_readBase 1 = .ok (.aload_n 0, 1) := by decide +kernel
theorem dX8_readBase_2 : decode cX8_readBase 2 = .ok (.getfield 230, 3) := by decide +kernel
theorem dX8_readBase_5 : decode cX8_readBase 5 = .ok (.bipush 16, 2) := by decide +kernel
theorem dX8_readBase_7 : decode cX8_readBase 7 = .ok (.invokevirtual 202, 3) := by decide +kernel
theorem dX8_readBase_10 : decode cX8_readBase 10 = .ok (.ifCond .eq 4, 3) := by decide +kernel
theorem dX8_readBase_13 : decode cX8_readBase 13 = .ok (.return_, 1) := by decide +kernel
theorem dX8_readBase_14 : decode cX8_readBase 14 = .ok (.aload_n 0, 1) := by decide +kernel
theorem dX8_readBase_15 : decode cX8_readBase 15 = .ok (.invokevirtual 175, 3) := by decide +kernel
theorem dX8_readBase_18 : decode cX8_readBase 18 = .ok (.aload_n 0, 1) := by decide +kernel
theorem dX8_readBase_19 : decode cX8_readBase 19 = .ok (.aload_n 0, 1) := by decide +kernel
theorem dX8_readBase_20 : decode cX8_readBase 20 = .ok (.getfield 50, 3) := by decide +kernel
theorem dX8_readBase_23 : decode cX8_readBase 23 = .ok (.aload_n 0, 1) := by decide +kernel
theorem dX8_readBase_24 : decode cX8_readBase 24 = .ok (.getfield 189, 3) := by decide +kernel
theorem dX8_readBase_27 : decode cX8_readBase 27 = .ok (.iconst (-1), 1) := by decide +kernel
theorem dX8_readBase_28 : decode cX8_readBase 28 = .ok (.invokevirtual 206, 3) := by decide +kernel
theorem dX8_readBase_31 : decode cX8_readBase 31 = .ok (.istore_n 1, 1) := by decide +kernel
theorem dX8_readBase_32 : decode cX8_readBase 32 = .ok (.aload_n 0, 1) := by decide +kernel
theorem dX8_readBase_33 : decode cX8_readBase 33 = .ok (.aload_n 0, 1) := by decide +kernel
theorem dX8_readBase_34 : decode cX8_readBase 34 = .ok (.getfield 47, 3) := by decide +kernel
theorem dX8_readBase_37 : decode cX8_readBase 37 = .ok (.aload_n 0, 1) := by decide +kernel
theorem dX8_readBase_38 : decode cX8_readBase 38 = .ok (.getfield 182, 3) := by decide +kernel
theorem dX8_readBase_41 : decode cX8_readBase 41 = .ok (.iconst (-1), 1) := by decide +kernel
theorem dX8_readBase_42 : decode cX8_readBase 42 = .ok (.invokevirtual 206, 3) := by decide +kernel
theorem dX8_readBase_45 : decode cX8_readBase 45 = .ok (.istore_n 2, 1) := by decide +kernel
theorem dX8_readBase_46 : decode cX8_readBase 46 = .ok (.aload_n 0, 1) := by decide +kernel
theorem dX8_readBase_47 : decode cX8_readBase 47 = .ok (.aload_n 0, 1) := by decide +kernel
theorem dX8_readBase_48 : decode cX8_readBase 48 = .ok (.getfield 47, 3) := by decide +kernel
theorem dX8_readBase_51 : decode cX8_readBase 51 = .ok (.aload_n 0, 1) := by decide +kernel
theorem dX8_readBase_52 : decode cX8_readBase 52 = .ok (.getfield 182, 3) := by decide +kernel
theorem dX8_readBase_55 : decode cX8_readBase 55 = .ok (.iload_n 2, 1) := by decide +kernel
theorem dX8_readBase_56 : decode cX8_readBase 56 = .ok (.invokevirtual 195, 3) := by decide +kernel
theorem dX8_readBase_59 : decode cX8_readBase 59 = .ok (.istore_n 3, 1) := by decide +kernel
theorem dX8_readBase_60 : decode cX8_readBase 60 = .ok (.aload_n 0, 1) := by decide +kernel
theorem dX8_readBase_61 : decode cX8_readBase 61 = .ok (.getfield 162, 3) := by decide +kernel
theorem dX8_readBase_64 : decode cX8_readBase 64 = .ok (.ifCond .ne 20, 3) := by decide +kernel
theorem dX8_readBase_67 : decode cX8_readBase 67 = .ok (.aload_n 0, 1) := by decide +kernel
theorem dX8_readBase_68 : decode cX8_readBase 68 = .ok (.iload_n 1, 1) := by decide +kernel
theorem dX8_readBase_69 : decode cX8_readBase 69 = .ok (.iload_n 2, 1) := by decide +kernel
theorem dX8_readBase_70 : decode cX8_readBase 70 = .ok (.iload_n 3, 1) := by decide +kernel
theorem dX8_readBase_71 : decode cX8_readBase 71 = .ok (.invokevirtual 233, 3) := by decide +kernel
theorem dX8_readBase_74 : decode cX8_readBase 74 = .ok (.bipush (-2), 2) := by decide +kernel
theorem dX8_readBase_76 : decode cX8_readBase 76 = .ok (.if_icmp .eq 8, 3) := by decide +kernel
theorem dX8_readBase_79 : decode cX8_readBase 79 = .ok (.aload_n 0, 1) := by decide +kernel
theorem dX8_readBase_80 : decode cX8_readBase 80 = .ok (.iconst 3, 1) := by decide +kernel
theorem dX8_readBase_81 : decode cX8_readBase 81 = .ok (.invokevirtual 171, 3) := by decide +kernel
theorem dX8_readBase_84 : decode cX8_readBase 84 = .ok (.aload_n 0, 1) := by decide +kernel
theorem dX8_readBase_85 : decode cX8_readBase 85 = .ok (.invokevirtual 175, 3) := by decide +kernel
theorem dX8_readBase_88 : decode cX8_readBase 88 = .ok (.aload_n 0, 1) := by decide +kernel
theorem dX8_readBase_89 : decode cX8_readBase 89 = .ok (.iconst 1, 1) := by decide +kernel
theorem dX8_readBase_90 : decode cX8_readBase 90 = .ok (.ldc 229, 2) := by decide +kernel
theorem dX8_readBase_92 : decode cX8_readBase 92 = .ok (.invokevirtual 213, 3) := by decide +kernel
theorem dX8_readBase_95 : decode cX8_readBase 95 = .ok (.istore 4, 2) := by decide +kernel
theorem dX8_readBase_97 : decode cX8_readBase 97 = .ok (.aload_n 0, 1) := by decide +kernel
theorem dX8_readBase_98 : decode cX8_readBase 98 = .ok (.invokevirtual 217, 3) := by decide +kernel
theorem dX8_readBase_101 : decode cX8_readBase 101 = .ok (.ifCond .ne 4, 3) := by decide +kernel
theorem dX8_readBase_104 : decode cX8_readBase 104 = .ok (.return_, 1) := by decide +kernel
theorem dX8_readBase_105 : decode cX8_readBase 105 = .ok (.aload_n 0, 1) := by decide +kernel
theorem dX8_readBase_106 : decode cX8_readBase 106 = .ok (.getfield 22, 3) := by decide +kernel
theorem dX8_readBase_109 : decode cX8_readBase 109 = .ok (.iconst 4, 1) := by decide +kernel
theorem dX8_readBase_110 : decode cX8_readBase 110 = .ok (.aload_n 0, 1) := by decide +kernel
theorem dX8_readBase_111 : decode cX8_readBase 111 = .ok (.getfield 230, 3) := by decide +kernel
theorem dX8_readBase_114 : decode cX8_readBase 114 = .ok (.imul, 1) := by decide +kernel
theorem dX8_readBase_115 : decode cX8_readBase 115 = .ok (.iload_n 1, 1) := by decide +kernel
theorem dX8_readBase_116 : decode cX8_readBase 116 = .ok (.iastore, 1) := by decide +kernel
theorem dX8_readBase_117 : decode cX8_readBase 117 = .ok (.aload_n 0, 1) := by decide +kernel
theorem dX8_readBase_118 : decode cX8_readBase 118 = .ok (.getfield 22, 3) := by decide +kernel
theorem dX8_readBase_121 : decode cX8_readBase 121 = .ok (.iconst 4, 1) := by decide +kernel
theorem dX8_readBase_122 : decode cX8_readBase 122 = .ok (.aload_n 0, 1) := by decide +kernel
theorem dX8_readBase_123 : decode cX8_readBase 123 = .ok (.getfield 230, 3) := by decide +kernel
theorem dX8_readBase_126 : decode cX8_readBase 126 = .ok (.imul, 1) := by decide +kernel
theorem dX8_readBase_127 : decode cX8_readBase 127 = .ok (.iconst 1, 1) := by decide +kernel
theorem dX8_readBase_128 : decode cX8_readBase 128 = .ok (.iadd, 1) := by decide +kernel
theorem dX8_readBase_129 : decode cX8_readBase 129 = .ok (.iload_n 2, 1) := by decide +kernel
theorem dX8_readBase_130 : decode cX8_readBase 130 = .ok (.iastore, 1) := by decide +kernel
theorem dX8_readBase_131 : decode cX8_readBase 131 = .ok (.aload_n 0, 1) := by decide +kernel
theorem dX8_readBase_132 : decode cX8_readBase 132 = .ok (.getfield 22, 3) := by decide +kernel
theorem dX8_readBase_135 : decode cX8_readBase 135 = .ok (.iconst 4, 1) := by decide +kernel
theorem dX8_readBase_136 : decode cX8_readBase 136 = .ok (.aload_n 0, 1) := by decide +kernel
theorem dX8_readBase_137 : decode cX8_readBase 137 = .ok (.getfield 230, 3) := by decide +kernel
theorem dX8_readBase_140 : decode cX8_readBase 140 = .ok (.imul, 1) := by decide +kernel
theorem dX8_readBase_141 : decode cX8_readBase 141 = .ok (.iconst 2, 1) := by decide +kernel
theorem dX8_readBase_142 : decode cX8_readBase 142 = .ok (.iadd, 1) := by decide +kernel
theorem dX8_readBase_143 : decode cX8_readBase 143 = .ok (.iload_n 3, 1) := by decide +kernel
theorem dX8_readBase_144 : decode cX8_readBase 144 = .ok (.iastore, 1) := by decide +kernel
theorem dX8_readBase_145 : decode cX8_readBase 145 = .ok (.aload_n 0, 1) := by decide +kernel
theorem dX8_readBase_146 : decode cX8_readBase 146 = .ok (.getfield 22, 3) := by decide +kernel
theorem dX8_readBase_149 : decode cX8_readBase 149 = .ok (.iconst 4, 1) := by decide +kernel
theorem dX8_readBase_150 : decode cX8_readBase 150 = .ok (.aload_n 0, 1) := by decide +kernel
theorem dX8_readBase_151 : decode cX8_readBase 151 = .ok (.getfield 230, 3) := by decide +kernel
theorem dX8_readBase_154 : decode cX8_readBase 154 = .ok (.imul, 1) := by decide +kernel
theorem dX8_readBase_155 : decode cX8_readBase 155 = .ok (.iconst 3, 1) := by decide +kernel
theorem dX8_readBase_156 : decode cX8_readBase 156 = .ok (.iadd, 1) := by decide +kernel
theorem dX8_readBase_157 : decode cX8_readBase 157 = .ok (.iload 4, 2) := by decide +kernel
theorem dX8_readBase_159 : decode cX8_readBase 159 = .ok (.iastore, 1) := by decide +kernel
theorem dX8_readBase_160 : decode cX8_readBase 160 = .ok (.aload_n 0, 1) := by decide +kernel
theorem dX8_readBase_161 : decode cX8_readBase 161 = .ok (.dup, 1) := by decide +kernel
theorem dX8_readBase_162 : decode cX8_readBase 162 = .ok (.getfield 230, 3) := by decide +kernel
theorem dX8_readBase_165 : decode cX8_readBase 165 = .ok (.iconst 1, 1) := by decide +kernel
theorem dX8_readBase_166 : decode cX8_readBase 166 = .ok (.iadd, 1) := by decide +kernel
theorem dX8_readBase_167 : decode cX8_readBase 167 = .ok (.putfield 230, 3) := by decide +kernel
theorem dX8_readBase_170 : decode cX8_readBase 170 = .ok (.return_, 1) := by decide +kernel
theorem dX8_readRate_0 : decode cX8_readRate 0 = .ok (.aload_n 0, 1) := by decide +kernel
theorem dX8_readRate_1 : decode cX8_readRate 1 = .ok (.getfield 237, 3) := by decide +kernel
theorem dX8_readRate_4 : decode cX8_readRate 4 = .ok (.ifCond .eq 8, 3) := by decide +kernel
theorem dX8_readRate_7 : decode cX8_readRate 7 = .ok (.aload_n 0, 1) := by decide +kernel
theorem dX8_readRate_8 : decode cX8_readRate 8 = .ok (.iconst 3, 1) := by decide +kernel
theorem dX8_readRate_9 : decode cX8_readRate 9 = .ok (.invokevirtual 171, 3) := by decide +kernel
theorem dX8_readRate_12 : decode cX8_readRate 12 = .ok (.aload_n 0, 1) := by decide +kernel
theorem dX8_readRate_13 : decode cX8_readRate 13 = .ok (.iconst 1, 1) := by decide +kernel
theorem dX8_readRate_14 : decode cX8_readRate 14 = .ok (.putfield 237, 3) := by decide +kernel
theorem dX8_readRate_17 : decode cX8_readRate 17 = .ok (.aload_n 0, 1) := by decide +kernel
theorem dX8_readRate_18 : decode cX8_readRate 18 = .ok (.invokevirtual 175, 3) := by decide +kernel
theorem dX8_readRate_21 : decode cX8_readRate 21 = .ok (.aload_n 0, 1) := by decide +kernel
theorem dX8_readRate_22 : decode cX8_readRate 22 = .ok (.aload_n 0, 1) := by decide +kernel
theorem dX8_readRate_23 : decode cX8_readRate 23 = .ok (.iconst 1, 1) := by decide +kernel
theorem dX8_readRate_24 : decode cX8_readRate 24 = .ok (.bipush 99, 2) := by decide +kernel
theorem dX8_readRate_26 : decode cX8_readRate 26 = .ok (.invokevirtual 213, 3) := by decide +kernel
theorem dX8_readRate_29 : decode cX8_readRate 29 = .ok (.putfield 106, 3) := by decide +kernel
theorem dX8_readRate_32 : decode cX8_readRate 32 = .ok (.aload_n 0, 1) := by decide +kernel
theorem dX8_readRate_33 : decode cX8_readRate 33 = .ok (.invokevirtual 217, 3) := by decide +kernel
theorem dX8_readRate_36 : decode cX8_readRate 36 = .ok (.pop, 1) := by decide +kernel
theorem dX8_readRate_37 : decode cX8_readRate 37 = .ok (.return_, 1) := by decide +kernel
theorem dX8_readTicket_0 : decode cX8_readTicket 0 = .ok (.aload_n 0, 1) := by decide +kernel
theorem dX8_readTicket_1 : decode cX8_readTicket 1 = .ok (.aload_n 0, 1) := by decide +kernel
theorem dX8_readTicket_2 : decode cX8_readTicket 2 = .ok (.getfield 192, 3) := by decide +kernel
theorem dX8_readTicket_5 : decode cX8_readTicket 5 = .ok (.bipush 8, 2) := by decide +kernel
theorem dX8_readTicket_7 : decode cX8_readTicket 7 = .ok (.invokevirtual 202, 3) := by decide +kernel
theorem dX8_readTicket_10 : decode cX8_readTicket 10 = .ok (.ifCond .eq 4, 3) := by decide +kernel
theorem dX8_readTicket_13 : decode cX8_readTicket 13 = .ok (.return_, 1) := by decide +kernel
theorem dX8_readTicket_14 : decode cX8_readTicket 14 = .ok (.aload_n 0, 1) := by decide +kernel
theorem dX8_readTicket_15 : decode cX8_readTicket 15 = .ok (.getfield 192, 3) := by decide +kernel
theorem dX8_readTicket_18 : decode cX8_readTicket 18 = .ok (.istore_n 1, 1) := by decide +kernel
theorem dX8_readTicket_19 : decode cX8_readTicket 19 = .ok (.aload_n 0, 1) := by decide +kernel
theorem dX8_readTicket_20 : decode cX8_readTicket 20 = .ok (.aload_n 0, 1) := by decide +kernel
theorem dX8_readTicket_21 : decode cX8_readTicket 21 = .ok (.getfield 53, 3) := by decide +kernel
theorem dX8_readTicket_24 : decode cX8_readTicket 24 = .ok (.iload_n 1, 1) := by decide +kernel
theorem dX8_readTicket_25 : decode cX8_readTicket 25 = .ok (.invokevirtual 241, 3) := by decide +kernel
theorem dX8_readTicket_28 : decode cX8_readTicket 28 = .ok (.aload_n 0, 1) := by decide +kernel
theorem dX8_readTicket_29 : decode cX8_readTicket 29 = .ok (.iconst 1, 1) := by decide +kernel
theorem dX8_readTicket_30 : decode cX8_readTicket 30 = .ok (.ldc 150, 2) := by decide +kernel
theorem dX8_readTicket_32 : decode cX8_readTicket 32 = .ok (.invokevirtual 213, 3) := by decide +kernel
theorem dX8_readTicket_35 : decode cX8_readTicket 35 = .ok (.istore_n 2, 1) := by decide +kernel
theorem dX8_readTicket_36 : decode cX8_readTicket 36 = .ok (.aload_n 0, 1) := by decide +kernel
theorem dX8_readTicket_37 : decode cX8_readTicket 37 = .ok (.bipush 14, 2) := by decide +kernel
theorem dX8_readTicket_39 : decode cX8_readTicket 39 = .ok (.invokevirtual 226, 3) := by decide +kernel
theorem dX8_readTicket_42 : decode cX8_readTicket 42 = .ok (.ifCond .ne 11, 3) := by decide +kernel
theorem dX8_readTicket_45 : decode cX8_readTicket 45 = .ok (.aload_n 0, 1) := by decide +kernel
theorem dX8_readTicket_46 : decode cX8_readTicket 46 = .ok (.iconst 5, 1) := by decide +kernel
theorem dX8_readTicket_47 : decode cX8_readTicket 47 = .ok (.invokevirtual 226, 3) := by decide +kernel
theorem dX8_readTicket_50 : decode cX8_readTicket 50 = .ok (.ifCond .eq 7, 3) := by decide +kernel
theorem dX8_readTicket_53 : decode cX8_readTicket 53 = .ok (.iconst 1, 1) := by decide +kernel
theorem dX8_readTicket_54 : decode cX8_readTicket 54 = .ok (.goto 4, 3) := by decide +kernel
theorem dX8_readTicket_57 : decode cX8_readTicket 57 = .ok (.iconst 0, 1) := by decide +kernel
theorem dX8_readTicket_58 : decode cX8_readTicket 58 = .ok (.istore_n 3, 1) := by decide +kernel
theorem dX8_readTicket_59 : decode cX8_readTicket 59 = .ok (.aload_n 0, 1) := by decide +kernel
theorem dX8_readTicket_60 : decode cX8_readTicket 60 = .ok (.getfield 162, 3) := by decide +kernel
theorem dX8_readTicket_63 : decode cX8_readTicket 63 = .ok (.ifCond .ne 12, 3) := by decide +kernel
theorem dX8_readTicket_66 : decode cX8_readTicket 66 = .ok (.iload_n 3, 1) := by decide +kernel
theorem dX8_readTicket_67 : decode cX8_readTicket 67 = .ok (.ifCond .ne 8, 3) := by decide +kernel
theorem dX8_readTicket_70 : decode cX8_readTicket 70 = .ok (.aload_n 0, 1) := by decide +kernel
theorem dX8_readTicket_71 : decode cX8_readTicket 71 = .ok (.iconst 1, 1) := by decide +kernel
theorem dX8_readTicket_72 : decode cX8_readTicket 72 = .ok (.invokevirtual 171, 3) := by decide +kernel
theorem dX8_readTicket_75 : decode cX8_readTicket 75 = .ok (.aload_n 0, 1) := by decide +kernel
theorem dX8_readTicket_76 : decode cX8_readTicket 76 = .ok (.iconst 5, 1) := by decide +kernel
theorem dX8_readTicket_77 : decode cX8_readTicket 77 = .ok (.invokevirtual 226, 3) := by decide +kernel
theorem dX8_readTicket_80 : decode cX8_readTicket 80 = .ok (.ifCond .eq 7, 3) := by decide +kernel
theorem dX8_readTicket_83 : decode cX8_readTicket 83 = .ok (.iconst 1, 1) := by decide +kernel
theorem dX8_readTicket_84 : decode cX8_readTicket 84 = .ok (.goto 4, 3) := by decide +kernel
theorem dX8_readTicket_87 : decode cX8_readTicket 87 = .ok (.iconst 0, 1) := by decide +kernel
theorem dX8_readTicket_88 : decode cX8_readTicket 88 = .ok (.istore 4, 2) := by decide +kernel
theorem dX8_readTicket_90 : decode cX8_readTicket 90 = .ok (.aload_n 0, 1) := by decide +kernel
theorem dX8_readTicket_91 : decode cX8_readTicket 91 = .ok (.invokevirtual 175, 3) := by decide +kernel
theorem dX8_readTicket_94 : decode cX8_readTicket 94 = .ok (.aload_n 0, 1) := by decide +kernel
theorem dX8_readTicket_95 : decode cX8_readTicket 95 = .ok (.aload_n 0, 1) := by decide +kernel
theorem dX8_readTicket_96 : decode cX8_readTicket 96 = .ok (.getfield 47, 3) := by decide +kernel
theorem dX8_readTicket_99 : decode cX8_readTicket 99 = .ok (.aload_n 0, 1) := by decide +kernel
theorem dX8_readTicket_100 : decode cX8_readTicket 100 = .ok (.getfield 182, 3) := by decide +kernel
theorem dX8_readTicket_103 : decode cX8_readTicket 103 = .ok (.iconst (-1), 1) := by decide +kernel
theorem dX8_readTicket_104 : decode cX8_readTicket 104 = .ok (.invokevirtual 206, 3) := by decide +kernel
theorem dX8_readTicket_107 : decode cX8_readTicket 107 = .ok (.istore 5, 2) := by decide +kernel
theorem dX8_readTicket_109 : decode cX8_readTicket 109 = .ok (.iconst 0, 1) := by decide +kernel
theorem dX8_readTicket_110 : decode cX8_readTicket 110 = .ok (.istore 6, 2) := by decide +kernel
theorem dX8_readTicket_112 : decode cX8_readTicket 112 = .ok (.aload_n 0, 1) := by decide +kernel
theorem dX8_readTicket_113 : decode cX8_readTicket 113 = .ok (.invokevirtual 109, 3) := by decide +kernel
theorem dX8_readTicket_116 : decode cX8_readTicket 116 = .ok (.aload_n 0, 1) := by decide +kernel
theorem dX8_readTicket_117 : decode cX8_readTicket 117 = .ok (.getfield 162, 3) := by decide +kernel
theorem dX8_readTicket_120 : decode cX8_readTicket 120 = .ok (.ifCond .ne 164, 3) := by decide +kernel
theorem dX8_readTicket_123 : decode cX8_readTicket 123 = .ok (.iload 6, 2) := by decide +kernel
theorem dX8_readTicket_125 : decode cX8_readTicket 125 = .ok (.ifCond .eq 11, 3) := by decide +kernel
theorem dX8_readTicket_128 : decode cX8_readTicket 128 = .ok (.aload_n 0, 1) := by decide +kernel
theorem dX8_readTicket_129 : decode cX8_readTicket 129 = .ok (.getfield 131, 3) := by decide +kernel
theorem dX8_readTicket_132 : decode cX8_readTicket 132 = .ok (.iconst 2, 1) := by decide +kernel
theorem dX8_readTicket_133 : decode cX8_readTicket 133 = .ok (.if_icmp .eq 151, 3) := by decide +kernel
theorem dX8_readTicket_136 : decode cX8_readTicket 136 = .ok (.aload_n 0, 1) := by decide +kernel
theorem dX8_readTicket_137 : decode cX8_readTicket 137 = .ok (.aload_n 0, 1) := by decide +kernel
theorem dX8_readTicket_138 : decode cX8_readTicket 138 = .ok (.getfield 50, 3) := by decide +kernel
theorem dX8_readTicket_141 : decode cX8_readTicket 141 = .ok (.aload_n 0, 1) := by decide +kernel
theorem dX8_readTicket_142 : decode cX8_readTicket 142 = .ok (.getfield 189, 3) := by decide +kernel
theorem dX8_readTicket_145 : decode cX8_readTicket 145 = .ok (.iconst (-1), 1) := by decide +kernel
theorem dX8_readTicket_146 : decode cX8_readTicket 146 = .ok (.invokevirtual 195, 3) := by decide +kernel
theorem dX8_readTicket_149 : decode cX8_readTicket 149 = .ok (.istore 7, 2) := by decide +kernel
theorem dX8_readTicket_151 : decode cX8_readTicket 151 = .ok (.aload_n 0, 1) := by decide +kernel
theorem dX8_readTicket_152 : decode cX8_readTicket 152 = .ok (.getfield 162, 3) := by decide +kernel
theorem dX8_readTicket_155 : decode cX8_readTicket 155 = .ok (.ifCond .ne 15, 3) := by decide +kernel
theorem dX8_readTicket_158 : decode cX8_readTicket 158 = .ok (.iload 6, 2) := by decide +kernel
theorem dX8_readTicket_160 : decode cX8_readTicket 160 = .ok (.bipush 8, 2) := by decide +kernel
theorem dX8_readTicket_162 : decode cX8_readTicket 162 = .ok (.if_icmp .ne 8, 3) := by decide +kernel
theorem dX8_readTicket_165 : decode cX8_readTicket 165 = .ok (.aload_n 0, 1) := by decide +kernel
theorem dX8_readTicket_166 : decode cX8_readTicket 166 = .ok (.iconst 2, 1) := by decide +kernel
theorem dX8_readTicket_167 : decode cX8_readTicket 167 = .ok (.invokevirtual 171, 3) := by decide +kernel
theorem dX8_readTicket_170 : decode cX8_readTicket 170 = .ok (.aload_n 0, 1) := by decide +kernel
theorem dX8_readTicket_171 : decode cX8_readTicket 171 = .ok (.invokevirtual 175, 3) := by decide +kernel
theorem dX8_readTicket_174 : decode cX8_readTicket 174 = .ok (.aload_n 0, 1) := by decide +kernel
theorem dX8_readTicket_175 : decode cX8_readTicket 175 = .ok (.aload_n 0, 1) := by decide +kernel
theorem dX8_readTicket_176 : decode cX8_readTicket 176 = .ok (.getfield 47, 3) := by decide +kernel
theorem dX8_readTicket_179 : decode cX8_readTicket 179 = .ok (.aload_n 0, 1) := by decide +kernel
theorem dX8_readTicket_180 : decode cX8_readTicket 180 = .ok (.getfield 182, 3) := by decide +kernel
theorem dX8_readTicket_183 : decode cX8_readTicket 183 = .ok (.iload 5, 2) := by decide +kernel
theorem dX8_readTicket_185 : decode cX8_readTicket 185 = .ok (.invokevirtual 195, 3) := by decide +kernel
theorem dX8_readTicket_188 : decode cX8_readTicket 188 = .ok (.istore 8, 2) := by decide +kernel
theorem dX8_readTicket_190 : decode cX8_readTicket 190 = .ok (.aload_n 0, 1) := by decide +kernel
theorem dX8_readTicket_191 : decode cX8_readTicket 191 = .ok (.getfield 162, 3) := by decide +kernel
theorem dX8_readTicket_194 : decode cX8_readTicket 194 = .ok (.ifCond .ne 26, 3) := by decide +kernel
theorem dX8_readTicket_197 : decode cX8_readTicket 197 = .ok (.aload_n 0, 1) := by decide +kernel
theorem dX8_readTicket_198 : decode cX8_readTicket 198 = .ok (.getfield 34, 3) := by decide +kernel
theorem dX8_readTicket_201 : decode cX8_readTicket 201 = .ok (.bipush 12, 2) := by decide +kernel
theorem dX8_readTicket_203 : decode cX8_readTicket 203 = .ok (.iload 5, 2) := by decide +kernel
theorem dX8_readTicket_205 : decode cX8_readTicket 205 = .ok (.imul, 1) := by decide +kernel
theorem dX8_readTicket_206 : decode cX8_readTicket 206 = .ok (.iload 8, 2) := by decide +kernel
theorem dX8_readTicket_208 : decode cX8_readTicket 208 = .ok (.iadd, 1) := by decide +kernel
theorem dX8_readTicket_209 : decode cX8_readTicket 209 = .ok (.iaload, 1) := by decide +kernel
theorem dX8_readTicket_210 : decode cX8_readTicket 210 = .ok (.ldc 245, 2) := by decide +kernel
theorem dX8_readTicket_212 : decode cX8_readTicket 212 = .ok (.if_icmp .lt 8, 3) := by decide +kernel
theorem dX8_readTicket_215 : decode cX8_readTicket 215 = .ok (.aload_n 0, 1) := by decide +kernel
theorem dX8_readTicket_216 : decode cX8_readTicket 216 = .ok (.iconst 1, 1) := by decide +kernel
theorem dX8_readTicket_217 : decode cX8_readTicket 217 = .ok (.invokevirtual 171, 3) := by decide +kernel
theorem dX8_readTicket_220 : decode cX8_readTicket 220 = .ok (.aload_n 0, 1) := by decide +kernel
theorem dX8_readTicket_221 : decode cX8_readTicket 221 = .ok (.invokevirtual 175, 3) := by decide +kernel
theorem dX8_readTicket_224 : decode cX8_readTicket 224 = .ok (.aload_n 0, 1) := by decide +kernel
theorem dX8_readTicket_225 : decode cX8_readTicket 225 = .ok (.getfield 162, 3) := by decide +kernel
theorem dX8_readTicket_228 : decode cX8_readTicket 228 = .ok (.ifCond .eq 4, 3) := by decide +kernel
theorem dX8_readTicket_231 : decode cX8_readTicket 231 = .ok (.return_, 1) := by decide +kernel
theorem dX8_readTicket_232 : decode cX8_readTicket 232 = .ok (.aload_n 0, 1) := by decide +kernel
theorem dX8_readTicket_233 : decode cX8_readTicket 233 = .ok (.getfield 56, 3) := by decide +kernel
theorem dX8_readTicket_236 : decode cX8_readTicket 236 = .ok (.bipush 8, 2) := by decide +kernel
theorem dX8_readTicket_238 : decode cX8_readTicket 238 = .ok (.iload_n 1, 1) := by decide +kernel
theorem dX8_readTicket_239 : decode cX8_readTicket 239 = .ok (.imul, 1) := by decide +kernel
theorem dX8_readTicket_240 : decode cX8_readTicket 240 = .ok (.iload 6, 2) := by decide +kernel
theorem dX8_readTicket_242 : decode cX8_readTicket 242 = .ok (.iadd, 1) := by decide +kernel
theorem dX8_readTicket_243 : decode cX8_readTicket 243 = .ok (.iload 7, 2) := by decide +kernel
theorem dX8_readTicket_245 : decode cX8_readTicket 245 = .ok (.iastore, 1) := by decide +kernel
theorem dX8_readTicket_246 : decode cX8_readTicket 246 = .ok (.aload_n 0, 1) := by decide +kernel
theorem dX8_readTicket_247 : decode cX8_readTicket 247 = .ok (.getfield 28, 3) := by decide +kernel
theorem dX8_readTicket_250 : decode cX8_readTicket 250 = .ok (.bipush 8, 2) := by decide +kernel
theorem dX8_readTicket_252 : decode cX8_readTicket 252 = .ok (.iload_n 1, 1) := by decide +kernel
theorem dX8_readTicket_253 : decode cX8_readTicket 253 = .ok (.imul, 1) := by decide +kernel
theorem dX8_readTicket_254 : decode cX8_readTicket 254 = .ok (.iload 6, 2) := by decide +kernel
theorem dX8_readTicket_256 : decode cX8_readTicket 256 = .ok (.iadd, 1) := by decide +kernel
theorem dX8_readTicket_257 : decode cX8_readTicket 257 = .ok (.iload 5, 2) := by decide +kernel
theorem dX8_readTicket_259 : decode cX8_readTicket 259 = .ok (.iastore, 1) := by decide +kernel
theorem dX8_readTicket_260 : decode cX8_readTicket 260 = .ok (.aload_n 0, 1) := by decide +kernel
theorem dX8_readTicket_261 : decode cX8_readTicket 261 = .ok (.getfield 31, 3) := by decide +kernel
theorem dX8_readTicket_264 : decode cX8_readTicket 264 = .ok (.bipush 8, 2) := by decide +kernel
theorem dX8_readTicket_266 : decode cX8_readTicket 266 = .ok (.iload_n 1, 1) := by decide +kernel
theorem dX8_readTicket_267 : decode cX8_readTicket 267 = .ok (.imul, 1) := by decide +kernel
theorem dX8_readTicket_268 : decode cX8_readTicket 268 = .ok (.iload 6, 2) := by decide +kernel
theorem dX8_readTicket_270 : decode cX8_readTicket 270 = .ok (.iadd, 1) := by decide +kernel
theorem dX8_readTicket_271 : decode cX8_readTicket 271 = .ok (.iload 8, 2) := by decide +kernel
theorem dX8_readTicket_273 : decode cX8_readTicket 273 = .ok (.iastore, 1) := by decide +kernel
theorem dX8_readTicket_274 : decode cX8_readTicket 274 = .ok (.iload 8, 2) := by decide +kernel
theorem dX8_readTicket_276 : decode cX8_readTicket 276 = .ok (.istore 5, 2) := by decide +kernel
theorem dX8_readTicket_278 : decode cX8_readTicket 278 = .ok (.iinc 6 1, 3) := by decide +kernel
theorem dX8_readTicket_281 : decode cX8_readTicket 281 = .ok (.goto (-165), 3) := by decide +kernel
theorem dX8_readTicket_284 : decode cX8_readTicket 284 = .ok (.aload_n 0, 1) := by decide +kernel
theorem dX8_readTicket_285 : decode cX8_readTicket 285 = .ok (.invokevirtual 217, 3) := by decide +kernel
theorem dX8_readTicket_288 : decode cX8_readTicket 288 = .ok (.ifCond .ne 4, 3) := by decide +kernel
theorem dX8_readTicket_291 : decode cX8_readTicket 291 = .ok (.return_, 1) := by decide +kernel
theorem dX8_readTicket_292 : decode cX8_readTicket 292 = .ok (.aload_n 0, 1) := by decide +kernel
theorem dX8_readTicket_293 : decode cX8_readTicket 293 = .ok (.getfield 25, 3) := by decide +kernel
theorem dX8_readTicket_296 : decode cX8_readTicket 296 = .ok (.iconst 4, 1) := by decide +kernel
theorem dX8_readTicket_297 : decode cX8_readTicket 297 = .ok (.iload_n 1, 1) := by decide +kernel
theorem dX8_readTicket_298 : decode cX8_readTicket 298 = .ok (.imul, 1) := by decide +kernel
theorem dX8_readTicket_299 : decode cX8_readTicket 299 = .ok (.iload_n 2, 1) := by decide +kernel
theorem dX8_readTicket_300 : decode cX8_readTicket 300 = .ok (.iastore, 1) := by decide +kernel
theorem dX8_readTicket_301 : decode cX8_readTicket 301 = .ok (.aload_n 0, 1) := by decide +kernel
theorem dX8_readTicket_302 : decode cX8_readTicket 302 = .ok (.getfield 25, 3) := by decide +kernel
theorem dX8_readTicket_305 : decode cX8_readTicket 305 = .ok (.iconst 4, 1) := by decide +kernel
theorem dX8_readTicket_306 : decode cX8_readTicket 306 = .ok (.iload_n 1, 1) := by decide +kernel
theorem dX8_readTicket_307 : decode cX8_readTicket 307 = .ok (.imul, 1) := by decide +kernel
theorem dX8_readTicket_308 : decode cX8_readTicket 308 = .ok (.iconst 1, 1) := by decide +kernel
theorem dX8_readTicket_309 : decode cX8_readTicket 309 = .ok (.iadd, 1) := by decide +kernel
theorem dX8_readTicket_310 : decode cX8_readTicket 310 = .ok (.iload 4, 2) := by decide +kernel
theorem dX8_readTicket_312 : decode cX8_readTicket 312 = .ok (.iastore, 1) := by decide +kernel
theorem dX8_readTicket_313 : decode cX8_readTicket 313 = .ok (.aload_n 0, 1) := by decide +kernel
theorem dX8_readTicket_314 : decode cX8_readTicket 314 = .ok (.getfield 25, 3) := by decide +kernel
theorem dX8_readTicket_317 : decode cX8_readTicket 317 = .ok (.iconst 4, 1) := by decide +kernel
theorem dX8_readTicket_318 : decode cX8_readTicket 318 = .ok (.iload_n 1, 1) := by decide +kernel
theorem dX8_readTicket_319 : decode cX8_readTicket 319 = .ok (.imul, 1) := by decide +kernel
theorem dX8_readTicket_320 : decode cX8_readTicket 320 = .ok (.iconst 2, 1) := by decide +kernel
theorem dX8_readTicket_321 : decode cX8_readTicket 321 = .ok (.iadd, 1) := by decide +kernel
theorem dX8_readTicket_322 : decode cX8_readTicket 322 = .ok (.iload 6, 2) := by decide +kernel
theorem dX8_readTicket_324 : decode cX8_readTicket 324 = .ok (.iastore, 1) := by decide +kernel
theorem dX8_readTicket_325 : decode cX8_readTicket 325 = .ok (.aload_n 0, 1) := by decide +kernel
theorem dX8_readTicket_326 : decode cX8_readTicket 326 = .ok (.getfield 25, 3) := by decide +kernel
theorem dX8_readTicket_329 : decode cX8_readTicket 329 = .ok (.iconst 4, 1) := by decide +kernel
theorem dX8_readTicket_330 : decode cX8_readTicket 330 = .ok (.iload_n 1, 1) := by decide +kernel
theorem dX8_readTicket_331 : decode cX8_readTicket 331 = .ok (.imul, 1) := by decide +kernel
theorem dX8_readTicket_332 : decode cX8_readTicket 332 = .ok (.iconst 3, 1) := by decide +kernel
theorem dX8_readTicket_333 : decode cX8_readTicket 333 = .ok (.iadd, 1) := by decide +kernel
theorem dX8_readTicket_334 : decode cX8_readTicket 334 = .ok (.aload_n 0, 1) := by decide +kernel
theorem dX8_readTicket_335 : decode cX8_readTicket 335 = .ok (.getfield 56, 3) := by decide +kernel
theorem dX8_readTicket_338 : decode cX8_readTicket 338 = .ok (.bipush 8, 2) := by decide +kernel
theorem dX8_readTicket_340 : decode cX8_readTicket 340 = .ok (.iload_n 1, 1) := by decide +kernel
theorem dX8_readTicket_341 : decode cX8_readTicket 341 = .ok (.imul, 1) := by decide +kernel
theorem dX8_readTicket_342 : decode cX8_readTicket 342 = .ok (.iaload, 1) := by decide +kernel
theorem dX8_readTicket_343 : decode cX8_readTicket 343 = .ok (.iastore, 1) := by decide +kernel
theorem dX8_readTicket_344 : decode cX8_readTicket 344 = .ok (.aload_n 0, 1) := by decide +kernel
theorem dX8_readTicket_345 : decode cX8_readTicket 345 = .ok (.dup, 1) := by decide +kernel
theorem dX8_readTicket_346 : decode cX8_readTicket 346 = .ok (.getfield 192, 3) := by decide +kernel
theorem dX8_readTicket_349 : decode cX8_readTicket 349 = .ok (.iconst 1, 1) := by decide +kernel
theorem dX8_readTicket_350 : decode cX8_readTicket 350 = .ok (.iadd, 1) := by decide +kernel
theorem dX8_readTicket_351 : decode cX8_readTicket 351 = .ok (.putfield 192, 3) := by decide +kernel
theorem dX8_readTicket_354 : decode cX8_readTicket 354 = .ok (.return_, 1) := by decide +kernel
theorem dX8_readPlace_0 : decode cX8_readPlace 0 = .ok (.aload_n 0, 1) := by decide +kernel
theorem dX8_readPlace_1 : decode cX8_readPlace 1 = .ok (.aload_n 0, 1) := by decide +kernel
theorem dX8_readPlace_2 : decode cX8_readPlace 2 = .ok (.getfield 182, 3) := by decide +kernel
theorem dX8_readPlace_5 : decode cX8_readPlace 5 = .ok (.bipush 12, 2) := by decide +kernel
theorem dX8_readPlace_7 : decode cX8_readPlace 7 = .ok (.invokevirtual 202, 3) := by decide +kernel
theorem dX8_readPlace_10 : decode cX8_readPlace 10 = .ok (.ifCond .eq 4, 3) := by decide +kernel
theorem dX8_readPlace_13 : decode cX8_readPlace 13 = .ok (.return_, 1) := by decide +kernel
theorem dX8_readPlace_14 : decode cX8_readPlace 14 = .ok (.aload_n 0, 1) := by decide +kernel
theorem dX8_readPlace_15 : decode cX8_readPlace 15 = .ok (.aload_n 0, 1) := by decide +kernel
theorem dX8_readPlace_16 : decode cX8_readPlace 16 = .ok (.getfield 47, 3) := by decide +kernel
theorem dX8_readPlace_19 : decode cX8_readPlace 19 = .ok (.aload_n 0, 1) := by decide +kernel
theorem dX8_readPlace_20 : decode cX8_readPlace 20 = .ok (.getfield 182, 3) := by decide +kernel
theorem dX8_readPlace_23 : decode cX8_readPlace 23 = .ok (.invokevirtual 241, 3) := by decide +kernel
theorem dX8_readPlace_26 : decode cX8_readPlace 26 = .ok (.aload_n 0, 1) := by decide +kernel
theorem dX8_readPlace_27 : decode cX8_readPlace 27 = .ok (.invokevirtual 217, 3) := by decide +kernel
theorem dX8_readPlace_30 : decode cX8_readPlace 30 = .ok (.ifCond .eq 13, 3) := by decide +kernel
theorem dX8_readPlace_33 : decode cX8_readPlace 33 = .ok (.aload_n 0, 1) := by decide +kernel
theorem dX8_readPlace_34 : decode cX8_readPlace 34 = .ok (.dup, 1) := by decide +kernel
theorem dX8_readPlace_35 : decode cX8_readPlace 35 = .ok (.getfield 182, 3) := by decide +kernel
theorem dX8_readPlace_38 : decode cX8_readPlace 38 = .ok (.iconst 1, 1) := by decide +kernel
theorem dX8_readPlace_39 : decode cX8_readPlace 39 = .ok (.iadd, 1) := by decide +kernel
theorem dX8_readPlace_40 : decode cX8_readPlace 40 = .ok (.putfield 182, 3) := by decide +kernel
theorem dX8_readPlace_43 : decode cX8_readPlace 43 = .ok (.return_, 1) := by decide +kernel
theorem dX8_readCarrier_0 : decode cX8_readCarrier 0 = .ok (.aload_n 0, 1) := by decide +kernel
theorem dX8_readCarrier_1 : decode cX8_readCarrier 1 = .ok (.aload_n 0, 1) := by decide +kernel
theorem dX8_readCarrier_2 : decode cX8_readCarrier 2 = .ok (.getfield 189, 3) := by decide +kernel
theorem dX8_readCarrier_5 : decode cX8_readCarrier 5 = .ok (.bipush 6, 2) := by decide +kernel
theorem dX8_readCarrier_7 : decode cX8_readCarrier 7 = .ok (.invokevirtual 202, 3) := by decide +kernel
theorem dX8_readCarrier_10 : decode cX8_readCarrier 10 = .ok (.ifCond .eq 4, 3) := by decide +kernel
theorem dX8_readCarrier_13 : decode cX8_readCarrier 13 = .ok (.return_, 1) := by decide +kernel
theorem dX8_readCarrier_14 : decode cX8_readCarrier 14 = .ok (.aload_n 0, 1) := by decide +kernel
theorem dX8_readCarrier_15 : decode cX8_readCarrier 15 = .ok (.aload_n 0, 1) := by decide +kernel
theorem dX8_readCarrier_16 : decode cX8_readCarrier 16 = .ok (.getfield 50, 3) := by decide +kernel
theorem dX8_readCarrier_19 : decode cX8_readCarrier 19 = .ok (.aload_n 0, 1) := by decide +kernel
theorem dX8_readCarrier_20 : decode cX8_readCarrier 20 = .ok (.getfield 189, 3) := by decide +kernel
theorem dX8_readCarrier_23 : decode cX8_readCarrier 23 = .ok (.invokevirtual 241, 3) := by decide +kernel
theorem dX8_readCarrier_26 : decode cX8_readCarrier 26 = .ok (.aload_n 0, 1) := by decide +kernel
theorem dX8_readCarrier_27 : decode cX8_readCarrier 27 = .ok (.invokevirtual 217, 3) := by decide +kernel
theorem dX8_readCarrier_30 : decode cX8_readCarrier 30 = .ok (.ifCond .eq 13, 3) := by decide +kernel
theorem dX8_readCarrier_33 : decode cX8_readCarrier 33 = .ok (.aload_n 0, 1) := by decide +kernel
theorem dX8_readCarrier_34 : decode cX8_readCarrier 34 = .ok (.dup, 1) := by decide +kernel
theorem dX8_readCarrier_35 : decode cX8_readCarrier 35 = .ok (.getfield 189, 3) := by decide +kernel
theorem dX8_readCarrier_38 : decode cX8_readCarrier 38 = .ok (.iconst 1, 1) := by decide +kernel
theorem dX8_readCarrier_39 : decode cX8_readCarrier 39 = .ok (.iadd, 1) := by decide +kernel
theorem dX8_readCarrier_40 : decode cX8_readCarrier 40 = .ok (.putfield 189, 3) := by decide +kernel
theorem dX8_readCarrier_43 : decode cX8_readCarrier 43 = .ok (.return_, 1) := by decide +kernel
theorem dX8_readLine_0 : decode cX8_readLine 0 = .ok (.aload_n 0, 1) := by decide +kernel
theorem dX8_readLine_1 : decode cX8_readLine 1 = .ok (.getfield 131, 3) := by decide +kernel
theorem dX8_readLine_4 : decode cX8_readLine 4 = .ok (.ifCond .ne 10, 3) := by decide +kernel
theorem dX8_readLine_7 : decode cX8_readLine 7 = .ok (.aload_n 0, 1) := by decide +kernel
theorem dX8_readLine_8 : decode cX8_readLine 8 = .ok (.getfield 144, 3) := by decide +kernel
theorem dX8_readLine_11 : decode cX8_readLine 11 = .ok (.goto 4, 3) := by decide +kernel
theorem dX8_readLine_14 : decode cX8_readLine 14 = .ok (.iconst (-1), 1) := by decide +kernel
theorem dX8_readLine_15 : decode cX8_readLine 15 = .ok (.istore_n 1, 1) := by decide +kernel
theorem dX8_readLine_16 : decode cX8_readLine 16 = .ok (.iload_n 1, 1) := by decide +kernel
theorem dX8_readLine_17 : decode cX8_readLine 17 = .ok (.tableswitch 103 0 7 #[47, 54, 61, 68, 75, 82, 89, 96], 47) := by decide +kernel
theorem dX8_readLine_64 : decode cX8_readLine 64 = .ok (.aload_n 0, 1) := by decide +kernel
theorem dX8_readLine_65 : decode cX8_readLine 65 = .ok (.invokevirtual 246, 3) := by decide +kernel
theorem dX8_readLine_68 : decode cX8_readLine 68 = .ok (.goto 57, 3) := by decide +kernel
theorem dX8_readLine_71 : decode cX8_readLine 71 = .ok (.aload_n 0, 1) := by decide +kernel
theorem dX8_readLine_72 : decode cX8_readLine 72 = .ok (.invokevirtual 249, 3) := by decide +kernel
theorem dX8_readLine_75 : decode cX8_readLine 75 = .ok (.goto 50, 3) := by decide +kernel
theorem dX8_readLine_78 : decode cX8_readLine 78 = .ok (.aload_n 0, 1) := by decide +kernel
theorem dX8_readLine_79 : decode cX8_readLine 79 = .ok (.invokevirtual 252, 3) := by decide +kernel
theorem dX8_readLine_82 : decode cX8_readLine 82 = .ok (.goto 43, 3) := by decide +kernel
theorem dX8_readLine_85 : decode cX8_readLine 85 = .ok (.aload_n 0, 1) := by decide +kernel
theorem dX8_readLine_86 : decode cX8_readLine 86 = .ok (.invokevirtual 255, 3) := by decide +kernel
theorem dX8_readLine_89 : decode cX8_readLine 89 = .ok (.goto 36, 3) := by decide +kernel
theorem dX8_readLine_92 : decode cX8_readLine 92 = .ok (.aload_n 0, 1) := by decide +kernel
theorem dX8_readLine_93 : decode cX8_readLine 93 = .ok (.invokevirtual 258, 3) := by decide +kernel
theorem dX8_readLine_96 : decode cX8_readLine 96 = .ok (.goto 29, 3) := by decide +kernel
theorem dX8_readLine_99 : decode cX8_readLine 99 = .ok (.aload_n 0, 1) := by decide +kernel
theorem dX8_readLine_100 : decode cX8_readLine 100 = .ok (.invokevirtual 261, 3) := by decide +kernel
theorem dX8_readLine_103 : decode cX8_readLine 103 = .ok (.goto 22, 3) := by decide +kernel
theorem dX8_readLine_106 : decode cX8_readLine 106 = .ok (.aload_n 0, 1) := by decide +kernel
theorem dX8_readLine_107 : decode cX8_readLine 107 = .ok (.invokevirtual 264, 3) := by decide +kernel
theorem dX8_readLine_110 : decode cX8_readLine 110 = .ok (.goto 15, 3) := by decide +kernel
theorem dX8_readLine_113 : decode cX8_readLine 113 = .ok (.aload_n 0, 1) := by decide +kernel
theorem dX8_readLine_114 : decode cX8_readLine 114 = .ok (.invokevirtual 267, 3) := by decide +kernel
theorem dX8_readLine_117 : decode cX8_readLine 117 = .ok (.goto 8, 3) := by decide +kernel
theorem dX8_readLine_120 : decode cX8_readLine 120 = .ok (.aload_n 0, 1) := by decide +kernel
theorem dX8_readLine_121 : decode cX8_readLine 121 = .ok (.iconst 1, 1) := by decide +kernel
theorem dX8_readLine_122 : decode cX8_readLine 122 = .ok (.invokevirtual 171, 3) := by decide +kernel
theorem dX8_readLine_125 : decode cX8_readLine 125 = .ok (.aload_n 0, 1) := by decide +kernel
theorem dX8_readLine_126 : decode cX8_readLine 126 = .ok (.invokevirtual 175, 3) := by decide +kernel
theorem dX8_readLine_129 : decode cX8_readLine 129 = .ok (.aload_n 0, 1) := by decide +kernel
theorem dX8_readLine_130 : decode cX8_readLine 130 = .ok (.dup, 1) := by decide +kernel
theorem dX8_readLine_131 : decode cX8_readLine 131 = .ok (.getfield 270, 3) := by decide +kernel
theorem dX8_readLine_134 : decode cX8_readLine 134 = .ok (.iconst 1, 1) := by decide +kernel
theorem dX8_readLine_135 : decode cX8_readLine 135 = .ok (.iadd, 1) := by decide +kernel
theorem dX8_readLine_136 : decode cX8_readLine 136 = .ok (.putfield 270, 3) := by decide +kernel
theorem dX8_readLine_139 : decode cX8_readLine 139 = .ok (.return_, 1) := by decide +kernel
theorem dX8_copies_0 : decode cX8_copies 0 = .ok (.iconst 0, 1) := by decide +kernel
theorem dX8_copies_1 : decode cX8_copies 1 = .ok (.istore 4, 2) := by decide +kernel
theorem dX8_copies_3 : decode cX8_copies 3 = .ok (.iload 4, 2) := by decide +kernel
theorem dX8_copies_5 : decode cX8_copies 5 = .ok (.aload_n 1, 1) := by decide +kernel
theorem dX8_copies_6 : decode cX8_copies 6 = .ok (.arraylength, 1) := by decide +kernel
theorem dX8_copies_7 : decode cX8_copies 7 = .ok (.if_icmp .ge 42, 3) := by decide +kernel
theorem dX8_copies_10 : decode cX8_copies 10 = .ok (.iload_n 3, 1) := by decide +kernel
theorem dX8_copies_11 : decode cX8_copies 11 = .ok (.ifCond .eq 19, 3) := by decide +kernel
theorem dX8_copies_14 : decode cX8_copies 14 = .ok (.aload_n 1, 1) := by decide +kernel
theorem dX8_copies_15 : decode cX8_copies 15 = .ok (.iload 4, 2) := by decide +kernel
theorem dX8_copies_17 : decode cX8_copies 17 = .ok (.aload_n 0, 1) := by decide +kernel
theorem dX8_copies_18 : decode cX8_copies 18 = .ok (.getfield 59, 3) := by decide +kernel
theorem dX8_copies_21 : decode cX8_copies 21 = .ok (.iload_n 2, 1) := by decide +kernel
theorem dX8_copies_22 : decode cX8_copies 22 = .ok (.iload 4, 2) := by decide +kernel
theorem dX8_copies_24 : decode cX8_copies 24 = .ok (.iadd, 1) := by decide +kernel
theorem dX8_copies_25 : decode cX8_copies 25 = .ok (.iaload, 1) := by decide +kernel
theorem dX8_copies_26 : decode cX8_copies 26 = .ok (.iastore, 1) := by decide +kernel
theorem dX8_copies_27 : decode cX8_copies 27 = .ok (.goto 16, 3) := by decide +kernel
theorem dX8_copies_30 : decode cX8_copies 30 = .ok (.aload_n 0, 1) := by decide +kernel
theorem dX8_copies_31 : decode cX8_copies 31 = .ok (.getfield 59, 3) := by decide +kernel
theorem dX8_copies_34 : decode cX8_copies 34 = .ok (.iload_n 2, 1) := by decide +kernel
theorem dX8_copies_35 : decode cX8_copies 35 = .ok (.iload 4, 2) := by decide +kernel
theorem dX8_copies_37 : decode cX8_copies 37 = .ok (.iadd, 1) := by decide +kernel
theorem dX8_copies_38 : decode cX8_copies 38 = .ok (.aload_n 1, 1) := by decide +kernel
theorem dX8_copies_39 : decode cX8_copies 39 = .ok (.iload 4, 2) := by decide +kernel
theorem dX8_copies_41 : decode cX8_copies 41 = .ok (.iaload, 1) := by decide +kernel
theorem dX8_copies_42 : decode cX8_copies 42 = .ok (.iastore, 1) := by decide +kernel
theorem dX8_copies_43 : decode cX8_copies 43 = .ok (.iinc 4 1, 3) := by decide +kernel
theorem dX8_copies_46 : decode cX8_copies 46 = .ok (.goto (-43), 3) := by decide +kernel
theorem dX8_copies_49 : decode cX8_copies 49 = .ok (.iload_n 2, 1) := by decide +kernel
theorem dX8_copies_50 : decode cX8_copies 50 = .ok (.aload_n 1, 1) := by decide +kernel
theorem dX8_copies_51 : decode cX8_copies 51 = .ok (.arraylength, 1) := by decide +kernel
theorem dX8_copies_52 : decode cX8_copies 52 = .ok (.iadd, 1) := by decide +kernel
theorem dX8_copies_53 : decode cX8_copies 53 = .ok (.ireturn, 1) := by decide +kernel
theorem dX8_keepsTold_0 : decode cX8_keepsTold 0 = .ok (.iload_n 1, 1) := by decide +kernel
theorem dX8_keepsTold_1 : decode cX8_keepsTold 1 = .ok (.ifCond .ne 96, 3) := by decide +kernel
theorem dX8_keepsTold_4 : decode cX8_keepsTold 4 = .ok (.aload_n 0, 1) := by decide +kernel
theorem dX8_keepsTold_5 : decode cX8_keepsTold 5 = .ok (.getfield 62, 3) := by decide +kernel
theorem dX8_keepsTold_8 : decode cX8_keepsTold 8 = .ok (.iconst 0, 1) := by decide +kernel
theorem dX8_keepsTold_9 : decode cX8_keepsTold 9 = .ok (.aload_n 0, 1) := by decide +kernel
theorem dX8_keepsTold_10 : decode cX8_keepsTold 10 = .ok (.getfield 182, 3) := by decide +kernel
theorem dX8_keepsTold_13 : decode cX8_keepsTold 13 = .ok (.iastore, 1) := by decide +kernel
theorem dX8_keepsTold_14 : decode cX8_keepsTold 14 = .ok (.aload_n 0, 1) := by decide +kernel
theorem dX8_keepsTold_15 : decode cX8_keepsTold 15 = .ok (.getfield 62, 3) := by decide +kernel
theorem dX8_keepsTold_18 : decode cX8_keepsTold 18 = .ok (.iconst 1, 1) := by decide +kernel
theorem dX8_keepsTold_19 : decode cX8_keepsTold 19 = .ok (.aload_n 0, 1) := by decide +kernel
theorem dX8_keepsTold_20 : decode cX8_keepsTold 20 = .ok (.getfield 189, 3) := by decide +kernel
theorem dX8_keepsTold_23 : decode cX8_keepsTold 23 = .ok (.iastore, 1) := by decide +kernel
theorem dX8_keepsTold_24 : decode cX8_keepsTold 24 = .ok (.aload_n 0, 1) := by decide +kernel
theorem dX8_keepsTold_25 : decode cX8_keepsTold 25 = .ok (.getfield 62, 3) := by decide +kernel
theorem dX8_keepsTold_28 : decode cX8_keepsTold 28 = .ok (.iconst 2, 1) := by decide +kernel
theorem dX8_keepsTold_29 : decode cX8_keepsTold 29 = .ok (.aload_n 0, 1) := by decide +kernel
theorem dX8_keepsTold_30 : decode cX8_keepsTold 30 = .ok (.getfield 199, 3) := by decide +kernel
theorem dX8_keepsTold_33 : decode cX8_keepsTold 33 = .ok (.iastore, 1) := by decide +kernel
theorem dX8_keepsTold_34 : decode cX8_keepsTold 34 = .ok (.aload_n 0, 1) := by decide +kernel
theorem dX8_keepsTold_35 : decode cX8_keepsTold 35 = .ok (.getfield 62, 3) := by decide +kernel
theorem dX8_keepsTold_38 : decode cX8_keepsTold 38 = .ok (.iconst 3, 1) := by decide +kernel
theorem dX8_keepsTold_39 : decode cX8_keepsTold 39 = .ok (.aload_n 0, 1) := by decide +kernel
theorem dX8_keepsTold_40 : decode cX8_keepsTold 40 = .ok (.getfield 220, 3) := by decide +kernel
theorem dX8_keepsTold_43 : decode cX8_keepsTold 43 = .ok (.iastore, 1) := by decide +kernel
theorem dX8_keepsTold_44 : decode cX8_keepsTold 44 = .ok (.aload_n 0, 1) := by decide +kernel
theorem dX8_keepsTold_45 : decode cX8_keepsTold 45 = .ok (.getfield 62, 3) := by decide +kernel
theorem dX8_keepsTold_48 : decode cX8_keepsTold 48 = .ok (.iconst 4, 1) := by decide +kernel
theorem dX8_keepsTold_49 : decode cX8_keepsTold 49 = .ok (.aload_n 0, 1) := by decide +kernel
theorem dX8_keepsTold_50 : decode cX8_keepsTold 50 = .ok (.getfield 223, 3) := by decide +kernel
theorem dX8_keepsTold_53 : decode cX8_keepsTold 53 = .ok (.iastore, 1) := by decide +kernel
theorem dX8_keepsTold_54 : decode cX8_keepsTold 54 = .ok (.aload_n 0, 1) := by decide +kernel
theorem dX8_keepsTold_55 : decode cX8_keepsTold 55 = .ok (.getfield 62, 3) := by decide +kernel
theorem dX8_keepsTold_58 : decode cX8_keepsTold 58 = .ok (.iconst 5, 1) := by decide +kernel
theorem dX8_keepsTold_59 : decode cX8_keepsTold 59 = .ok (.aload_n 0, 1) := by decide +kernel
theorem dX8_keepsTold_60 : decode cX8_keepsTold 60 = .ok (.getfield 230, 3) := by decide +kernel
theorem dX8_keepsTold_63 : decode cX8_keepsTold 63 = .ok (.iastore, 1) := by decide +kernel
theorem dX8_keepsTold_64 : decode cX8_keepsTold 64 = .ok (.aload_n 0, 1) := by decide +kernel
theorem dX8_keepsTold_65 : decode cX8_keepsTold 65 = .ok (.getfield 62, 3) := by decide +kernel
theorem dX8_keepsTold_68 : decode cX8_keepsTold 68 = .ok (.bipush 6, 2) := by decide +kernel
theorem dX8_keepsTold_70 : decode cX8_keepsTold 70 = .ok (.aload_n 0, 1) := by decide +kernel
theorem dX8_keepsTold_71 : decode cX8_keepsTold 71 = .ok (.getfield 192, 3) := by decide +kernel
theorem dX8_keepsTold_74 : decode cX8_keepsTold 74 = .ok (.iastore, 1) := by decide +kernel
theorem dX8_keepsTold_75 : decode cX8_keepsTold 75 = .ok (.aload_n 0, 1) := by decide +kernel
theorem dX8_keepsTold_76 : decode cX8_keepsTold 76 = .ok (.getfield 62, 3) := by decide +kernel
theorem dX8_keepsTold_79 : decode cX8_keepsTold 79 = .ok (.bipush 7, 2) := by decide +kernel
theorem dX8_keepsTold_81 : decode cX8_keepsTold 81 = .ok (.aload_n 0, 1) := by decide +kernel
theorem dX8_keepsTold_82 : decode cX8_keepsTold 82 = .ok (.getfield 106, 3) := by decide +kernel
theorem dX8_keepsTold_85 : decode cX8_keepsTold 85 = .ok (.iastore, 1) := by decide +kernel
theorem dX8_keepsTold_86 : decode cX8_keepsTold 86 = .ok (.aload_n 0, 1) := by decide +kernel
theorem dX8_keepsTold_87 : decode cX8_keepsTold 87 = .ok (.getfield 62, 3) := by decide +kernel
theorem dX8_keepsTold_90 : decode cX8_keepsTold 90 = .ok (.bipush 8, 2) := by decide +kernel
theorem dX8_keepsTold_92 : decode cX8_keepsTold 92 = .ok (.aload_n 0, 1) := by decide +kernel
theorem dX8_keepsTold_93 : decode cX8_keepsTold 93 = .ok (.getfield 270, 3) := by decide +kernel
theorem dX8_keepsTold_96 : decode cX8_keepsTold 96 = .ok (.iastore, 1) := by decide +kernel
theorem dX8_keepsTold_97 : decode cX8_keepsTold 97 = .ok (.aload_n 0, 1) := by decide +kernel
theorem dX8_keepsTold_98 : decode cX8_keepsTold 98 = .ok (.aload_n 0, 1) := by decide +kernel
theorem dX8_keepsTold_99 : decode cX8_keepsTold 99 = .ok (.getfield 62, 3) := by decide +kernel
theorem dX8_keepsTold_102 : decode cX8_keepsTold 102 = .ok (.iconst 0, 1) := by decide +kernel
theorem dX8_keepsTold_103 : decode cX8_keepsTold 103 = .ok (.iload_n 1, 1) := by decide +kernel
theorem dX8_keepsTold_104 : decode cX8_keepsTold 104 = .ok (.invokevirtual 273, 3) := by decide +kernel
theorem dX8_keepsTold_107 : decode cX8_keepsTold 107 = .ok (.istore_n 2, 1) := by decide +kernel
theorem dX8_keepsTold_108 : decode cX8_keepsTold 108 = .ok (.aload_n 0, 1) := by decide +kernel
theorem dX8_keepsTold_109 : decode cX8_keepsTold 109 = .ok (.aload_n 0, 1) := by decide +kernel
theorem dX8_keepsTold_110 : decode cX8_keepsTold 110 = .ok (.getfield 13, 3) := by decide +kernel
theorem dX8_keepsTold_113 : decode cX8_keepsTold 113 = .ok (.iload_n 2, 1) := by decide +kernel
theorem dX8_keepsTold_114 : decode cX8_keepsTold 114 = .ok (.iload_n 1, 1) := by decide +kernel
theorem dX8_keepsTold_115 : decode cX8_keepsTold 115 = .ok (.invokevirtual 273, 3) := by decide +kernel
theorem dX8_keepsTold_118 : decode cX8_keepsTold 118 = .ok (.istore_n 2, 1) := by decide +kernel
theorem dX8_keepsTold_119 : decode cX8_keepsTold 119 = .ok (.aload_n 0, 1) := by decide +kernel
theorem dX8_keepsTold_120 : decode cX8_keepsTold 120 = .ok (.aload_n 0, 1) := by decide +kernel
theorem dX8_keepsTold_121 : decode cX8_keepsTold 121 = .ok (.getfield 16, 3) := by decide +kernel
theorem dX8_keepsTold_124 : decode cX8_keepsTold 124 = .ok (.iload_n 2, 1) := by decide +kernel
theorem dX8_keepsTold_125 : decode cX8_keepsTold 125 = .ok (.iload_n 1, 1) := by decide +kernel
theorem dX8_keepsTold_126 : decode cX8_keepsTold 126 = .ok (.invokevirtual 273, 3) := by decide +kernel
theorem dX8_keepsTold_129 : decode cX8_keepsTold 129 = .ok (.istore_n 2, 1) := by decide +kernel
theorem dX8_keepsTold_130 : decode cX8_keepsTold 130 = .ok (.aload_n 0, 1) := by decide +kernel
theorem dX8_keepsTold_131 : decode cX8_keepsTold 131 = .ok (.aload_n 0, 1) := by decide +kernel
theorem dX8_keepsTold_132 : decode cX8_keepsTold 132 = .ok (.getfield 19, 3) := by decide +kernel
theorem dX8_keepsTold_135 : decode cX8_keepsTold 135 = .ok (.iload_n 2, 1) := by decide +kernel
theorem dX8_keepsTold_136 : decode cX8_keepsTold 136 = .ok (.iload_n 1, 1) := by decide +kernel
theorem dX8_keepsTold_137 : decode cX8_keepsTold 137 = .ok (.invokevirtual 273, 3) := by decide +kernel
theorem dX8_keepsTold_140 : decode cX8_keepsTold 140 = .ok (.istore_n 2, 1) := by decide +kernel
theorem dX8_keepsTold_141 : decode cX8_keepsTold 141 = .ok (.aload_n 0, 1) := by decide +kernel
theorem dX8_keepsTold_142 : decode cX8_keepsTold 142 = .ok (.aload_n 0, 1) := by decide +kernel
theorem dX8_keepsTold_143 : decode cX8_keepsTold 143 = .ok (.getfield 22, 3) := by decide +kernel
theorem dX8_keepsTold_146 : decode cX8_keepsTold 146 = .ok (.iload_n 2, 1) := by decide +kernel
theorem dX8_keepsTold_147 : decode cX8_keepsTold 147 = .ok (.iload_n 1, 1) := by decide +kernel
theorem dX8_keepsTold_148 : decode cX8_keepsTold 148 = .ok (.invokevirtual 273, 3) := by decide +kernel
theorem dX8_keepsTold_151 : decode cX8_keepsTold 151 = .ok (.istore_n 2, 1) := by decide +kernel
theorem dX8_keepsTold_152 : decode cX8_keepsTold 152 = .ok (.aload_n 0, 1) := by decide +kernel
theorem dX8_keepsTold_153 : decode cX8_keepsTold 153 = .ok (.aload_n 0, 1) := by decide +kernel
theorem dX8_keepsTold_154 : decode cX8_keepsTold 154 = .ok (.getfield 25, 3) := by decide +kernel
theorem dX8_keepsTold_157 : decode cX8_keepsTold 157 = .ok (.iload_n 2, 1) := by decide +kernel
theorem dX8_keepsTold_158 : decode cX8_keepsTold 158 = .ok (.iload_n 1, 1) := by decide +kernel
theorem dX8_keepsTold_159 : decode cX8_keepsTold 159 = .ok (.invokevirtual 273, 3) := by decide +kernel
theorem dX8_keepsTold_162 : decode cX8_keepsTold 162 = .ok (.istore_n 2, 1) := by decide +kernel
theorem dX8_keepsTold_163 : decode cX8_keepsTold 163 = .ok (.aload_n 0, 1) := by decide +kernel
theorem dX8_keepsTold_164 : decode cX8_keepsTold 164 = .ok (.aload_n 0, 1) := by decide +kernel
theorem dX8_keepsTold_165 : decode cX8_keepsTold 165 = .ok (.getfield 28, 3) := by decide +kernel
theorem dX8_keepsTold_168 : decode cX8_keepsTold 168 = .ok (.iload_n 2, 1) := by decide +kernel
theorem dX8_keepsTold_169 : decode cX8_keepsTold 169 = .ok (.iload_n 1, 1) := by decide +kernel
theorem dX8_keepsTold_170 : decode cX8_keepsTold 170 = .ok (.invokevirtual 273, 3) := by decide +kernel
theorem dX8_keepsTold_173 : decode cX8_keepsTold 173 = .ok (.istore_n 2, 1) := by decide +kernel
theorem dX8_keepsTold_174 : decode cX8_keepsTold 174 = .ok (.aload_n 0, 1) := by decide +kernel
theorem dX8_keepsTold_175 : decode cX8_keepsTold 175 = .ok (.aload_n 0, 1) := by decide +kernel
theorem dX8_keepsTold_176 : decode cX8_keepsTold 176 = .ok (.getfield 31, 3) := by decide +kernel
theorem dX8_keepsTold_179 : decode cX8_keepsTold 179 = .ok (.iload_n 2, 1) := by decide +kernel
theorem dX8_keepsTold_180 : decode cX8_keepsTold 180 = .ok (.iload_n 1, 1) := by decide +kernel
theorem dX8_keepsTold_181 : decode cX8_keepsTold 181 = .ok (.invokevirtual 273, 3) := by decide +kernel
theorem dX8_keepsTold_184 : decode cX8_keepsTold 184 = .ok (.pop, 1) := by decide +kernel
theorem dX8_keepsTold_185 : decode cX8_keepsTold 185 = .ok (.iload_n 1, 1) := by decide +kernel
theorem dX8_keepsTold_186 : decode cX8_keepsTold 186 = .ok (.ifCond .ne 4, 3) := by decide +kernel
theorem dX8_keepsTold_189 : decode cX8_keepsTold 189 = .ok (.return_, 1) := by decide +kernel
theorem dX8_keepsTold_190 : decode cX8_keepsTold 190 = .ok (.aload_n 0, 1) := by decide +kernel
theorem dX8_keepsTold_191 : decode cX8_keepsTold 191 = .ok (.aload_n 0, 1) := by decide +kernel
theorem dX8_keepsTold_192 : decode cX8_keepsTold 192 = .ok (.getfield 62, 3) := by decide +kernel
theorem dX8_keepsTold_195 : decode cX8_keepsTold 195 = .ok (.iconst 0, 1) := by decide +kernel
theorem dX8_keepsTold_196 : decode cX8_keepsTold 196 = .ok (.iaload, 1) := by decide +kernel
theorem dX8_keepsTold_197 : decode cX8_keepsTold 197 = .ok (.putfield 182, 3) := by decide +kernel
theorem dX8_keepsTold_200 : decode cX8_keepsTold 200 = .ok (.aload_n 0, 1) := by decide +kernel
theorem dX8_keepsTold_201 : decode cX8_keepsTold 201 = .ok (.aload_n 0, 1) := by decide +kernel
theorem dX8_keepsTold_202 : decode cX8_keepsTold 202 = .ok (.getfield 62, 3) := by decide +kernel
theorem dX8_keepsTold_205 : decode cX8_keepsTold 205 = .ok (.iconst 1, 1) := by decide +kernel
theorem dX8_keepsTold_206 : decode cX8_keepsTold 206 = .ok (.iaload, 1) := by decide +kernel
theorem dX8_keepsTold_207 : decode cX8_keepsTold 207 = .ok (.putfield 189, 3) := by decide +kernel
theorem dX8_keepsTold_210 : decode cX8_keepsTold 210 = .ok (.aload_n 0, 1) := by decide +kernel
theorem dX8_keepsTold_211 : decode cX8_keepsTold 211 = .ok (.aload_n 0, 1) := by decide +kernel
theorem dX8_keepsTold_212 : decode cX8_keepsTold 212 = .ok (.getfield 62, 3) := by decide +kernel
theorem dX8_keepsTold_215 : decode cX8_keepsTold 215 = .ok (.iconst 2, 1) := by decide +kernel
theorem dX8_keepsTold_216 : decode cX8_keepsTold 216 = .ok (.iaload, 1) := by decide +kernel
theorem dX8_keepsTold_217 : decode cX8_keepsTold 217 = .ok (.putfield 199, 3) := by decide +kernel
theorem dX8_keepsTold_220 : decode cX8_keepsTold 220 = .ok (.aload_n 0, 1) := by decide +kernel
theorem dX8_keepsTold_221 : decode cX8_keepsTold 221 = .ok (.aload_n 0, 1) := by decide +kernel
theorem dX8_keepsTold_222 : decode cX8_keepsTold 222 = .ok (.getfield 62, 3) := by decide +kernel
theorem dX8_keepsTold_225 : decode cX8_keepsTold 225 = .ok (.iconst 3, 1) := by decide +kernel
theorem dX8_keepsTold_226 : decode cX8_keepsTold 226 = .ok (.iaload, 1) := by decide +kernel
theorem dX8_keepsTold_227 : decode cX8_keepsTold 227 = .ok (.putfield 220, 3) := by decide +kernel
theorem dX8_keepsTold_230 : decode cX8_keepsTold 230 = .ok (.aload_n 0, 1) := by decide +kernel
theorem dX8_keepsTold_231 : decode cX8_keepsTold 231 = .ok (.aload_n 0, 1) := by decide +kernel
theorem dX8_keepsTold_232 : decode cX8_keepsTold 232 = .ok (.getfield 62, 3) := by decide +kernel
theorem dX8_keepsTold_235 : decode cX8_keepsTold 235 = .ok (.iconst 4, 1) := by decide +kernel
theorem dX8_keepsTold_236 : decode cX8_keepsTold 236 = .ok (.iaload, 1) := by decide +kernel
theorem dX8_keepsTold_237 : decode cX8_keepsTold 237 = .ok (.putfield 223, 3) := by decide +kernel
theorem dX8_keepsTold_240 : decode cX8_keepsTold 240 = .ok (.aload_n 0, 1) := by decide +kernel
theorem dX8_keepsTold_241 : decode cX8_keepsTold 241 = .ok (.aload_n 0, 1) := by decide +kernel
theorem dX8_keepsTold_242 : decode cX8_keepsTold 242 = .ok (.getfield 62, 3) := by decide +kernel
theorem dX8_keepsTold_245 : decode cX8_keepsTold 245 = .ok (.iconst 5, 1) := by decide +kernel
theorem dX8_keepsTold_246 : decode cX8_keepsTold 246 = .ok (.iaload, 1) := by decide +kernel
theorem dX8_keepsTold_247 : decode cX8_keepsTold 247 = .ok (.putfield 230, 3) := by decide +kernel
theorem dX8_keepsTold_250 : decode cX8_keepsTold 250 = .ok (.aload_n 0, 1) := by decide +kernel
theorem dX8_keepsTold_251 : decode cX8_keepsTold 251 = .ok (.aload_n 0, 1) := by decide +kernel
theorem dX8_keepsTold_252 : decode cX8_keepsTold 252 = .ok (.getfield 62, 3) := by decide +kernel
theorem dX8_keepsTold_255 : decode cX8_keepsTold 255 = .ok (.bipush 6, 2) := by decide +kernel
theorem dX8_keepsTold_257 : decode cX8_keepsTold 257 = .ok (.iaload, 1) := by decide +kernel
theorem dX8_keepsTold_258 : decode cX8_keepsTold 258 = .ok (.putfield 192, 3) := by decide +kernel
theorem dX8_keepsTold_261 : decode cX8_keepsTold 261 = .ok (.aload_n 0, 1) := by decide +kernel
theorem dX8_keepsTold_262 : decode cX8_keepsTold 262 = .ok (.aload_n 0, 1) := by decide +kernel
theorem dX8_keepsTold_263 : decode cX8_keepsTold 263 = .ok (.getfield 62, 3) := by decide +kernel
theorem dX8_keepsTold_266 : decode cX8_keepsTold 266 = .ok (.bipush 7, 2) := by decide +kernel
theorem dX8_keepsTold_268 : decode cX8_keepsTold 268 = .ok (.iaload, 1) := by decide +kernel
theorem dX8_keepsTold_269 : decode cX8_keepsTold 269 = .ok (.putfield 106, 3) := by decide +kernel
theorem dX8_keepsTold_272 : decode cX8_keepsTold 272 = .ok (.aload_n 0, 1) := by decide +kernel
theorem dX8_keepsTold_273 : decode cX8_keepsTold 273 = .ok (.aload_n 0, 1) := by decide +kernel
theorem dX8_keepsTold_274 : decode cX8_keepsTold 274 = .ok (.getfield 62, 3) := by decide +kernel
theorem dX8_keepsTold_277 : decode cX8_keepsTold 277 = .ok (.bipush 8, 2) := by decide +kernel
theorem dX8_keepsTold_279 : decode cX8_keepsTold 279 = .ok (.iaload, 1) := by decide +kernel
theorem dX8_keepsTold_280 : decode cX8_keepsTold 280 = .ok (.putfield 270, 3) := by decide +kernel
theorem dX8_keepsTold_283 : decode cX8_keepsTold 283 = .ok (.return_, 1) := by decide +kernel
theorem dX8_text_0 : decode cX8_text 0 = .ok (.aload_n 0, 1) := by decide +kernel
theorem dX8_text_1 : decode cX8_text 1 = .ok (.iconst 0, 1) := by decide +kernel
theorem dX8_text_2 : decode cX8_text 2 = .ok (.putfield 112, 3) := by decide +kernel
theorem dX8_text_5 : decode cX8_text 5 = .ok (.iload_n 1, 1) := by decide +kernel
theorem dX8_text_6 : decode cX8_text 6 = .ok (.ifCond .lt 11, 3) := by decide +kernel
theorem dX8_text_9 : decode cX8_text 9 = .ok (.iload_n 1, 1) := by decide +kernel
theorem dX8_text_10 : decode cX8_text 10 = .ok (.aload_n 0, 1) := by decide +kernel
theorem dX8_text_11 : decode cX8_text 11 = .ok (.getfield 115, 3) := by decide +kernel
theorem dX8_text_14 : decode cX8_text 14 = .ok (.if_icmp .le 6, 3) := by decide +kernel
theorem dX8_text_17 : decode cX8_text 17 = .ok (.bipush (-2), 2) := by decide +kernel
theorem dX8_text_19 : decode cX8_text 19 = .ok (.ireturn, 1) := by decide +kernel
theorem dX8_text_20 : decode cX8_text 20 = .ok (.aload_n 0, 1) := by decide +kernel
theorem dX8_text_21 : decode cX8_text 21 = .ok (.iconst 0, 1) := by decide +kernel
theorem dX8_text_22 : decode cX8_text 22 = .ok (.invokevirtual 277, 3) := by decide +kernel
theorem dX8_text_25 : decode cX8_text 25 = .ok (.aload_n 0, 1) := by decide +kernel
theorem dX8_text_26 : decode cX8_text 26 = .ok (.iconst 0, 1) := by decide +kernel
theorem dX8_text_27 : decode cX8_text 27 = .ok (.putfield 182, 3) := by decide +kernel
theorem dX8_text_30 : decode cX8_text 30 = .ok (.aload_n 0, 1) := by decide +kernel
theorem dX8_text_31 : decode cX8_text 31 = .ok (.iconst 0, 1) := by decide +kernel
theorem dX8_text_32 : decode cX8_text 32 = .ok (.putfield 189, 3) := by decide +kernel
theorem dX8_text_35 : decode cX8_text 35 = .ok (.aload_n 0, 1) := by decide +kernel
theorem dX8_text_36 : decode cX8_text 36 = .ok (.iconst 0, 1) := by decide +kernel
theorem dX8_text_37 : decode cX8_text 37 = .ok (.putfield 199, 3) := by decide +kernel
theorem dX8_text_40 : decode cX8_text 40 = .ok (.aload_n 0, 1) := by decide +kernel
theorem dX8_text_41 : decode cX8_text 41 = .ok (.iconst 0, 1) := by decide +kernel
theorem dX8_text_42 : decode cX8_text 42 = .ok (.putfield 220, 3) := by decide +kernel
theorem dX8_text_45 : decode cX8_text 45 = .ok (.aload_n 0, 1) := by decide +kernel
theorem dX8_text_46 : decode cX8_text 46 = .ok (.iconst 0, 1) := by decide +kernel
theorem dX8_text_47 : decode cX8_text 47 = .ok (.putfield 223, 3) := by decide +kernel
theorem dX8_text_50 : decode cX8_text 50 = .ok (.aload_n 0, 1) := by decide +kernel
theorem dX8_text_51 : decode cX8_text 51 = .ok (.iconst 0, 1) := by decide +kernel
theorem dX8_text_52 : decode cX8_text 52 = .ok (.putfield 230, 3) := by decide +kernel
theorem dX8_text_55 : decode cX8_text 55 = .ok (.aload_n 0, 1) := by decide +kernel
theorem dX8_text_56 : decode cX8_text 56 = .ok (.iconst 0, 1) := by decide +kernel
theorem dX8_text_57 : decode cX8_text 57 = .ok (.putfield 192, 3) := by decide +kernel
theorem dX8_text_60 : decode cX8_text 60 = .ok (.aload_n 0, 1) := by decide +kernel
theorem dX8_text_61 : decode cX8_text 61 = .ok (.iconst 0, 1) := by decide +kernel
theorem dX8_text_62 : decode cX8_text 62 = .ok (.putfield 270, 3) := by decide +kernel
theorem dX8_text_65 : decode cX8_text 65 = .ok (.aload_n 0, 1) := by decide +kernel
theorem dX8_text_66 : decode cX8_text 66 = .ok (.bipush 10, 2) := by decide +kernel
theorem dX8_text_68 : decode cX8_text 68 = .ok (.putfield 106, 3) := by decide +kernel
theorem dX8_text_71 : decode cX8_text 71 = .ok (.aload_n 0, 1) := by decide +kernel
theorem dX8_text_72 : decode cX8_text 72 = .ok (.iconst 0, 1) := by decide +kernel
theorem dX8_text_73 : decode cX8_text 73 = .ok (.putfield 237, 3) := by decide +kernel
theorem dX8_text_76 : decode cX8_text 76 = .ok (.aload_n 0, 1) := by decide +kernel
theorem dX8_text_77 : decode cX8_text 77 = .ok (.iload_n 1, 1) := by decide +kernel
theorem dX8_text_78 : decode cX8_text 78 = .ok (.putfield 121, 3) := by decide +kernel
theorem dX8_text_81 : decode cX8_text 81 = .ok (.aload_n 0, 1) := by decide +kernel
theorem dX8_text_82 : decode cX8_text 82 = .ok (.iconst 0, 1) := by decide +kernel
theorem dX8_text_83 : decode cX8_text 83 = .ok (.putfield 118, 3) := by decide +kernel
theorem dX8_text_86 : decode cX8_text 86 = .ok (.aload_n 0, 1) := by decide +kernel
theorem dX8_text_87 : decode cX8_text 87 = .ok (.iconst 0, 1) := by decide +kernel
theorem dX8_text_88 : decode cX8_text 88 = .ok (.putfield 162, 3) := by decide +kernel
theorem dX8_text_91 : decode cX8_text 91 = .ok (.aload_n 0, 1) := by decide +kernel
theorem dX8_text_92 : decode cX8_text 92 = .ok (.invokevirtual 168, 3) := by decide +kernel
theorem dX8_text_95 : decode cX8_text 95 = .ok (.aload_n 0, 1) := by decide +kernel
theorem dX8_text_96 : decode cX8_text 96 = .ok (.getfield 162, 3) := by decide +kernel
theorem dX8_text_99 : decode cX8_text 99 = .ok (.ifCond .ne 18, 3) := by decide +kernel
theorem dX8_text_102 : decode cX8_text 102 = .ok (.aload_n 0, 1) := by decide +kernel
theorem dX8_text_103 : decode cX8_text 103 = .ok (.getfield 131, 3) := by decide +kernel
theorem dX8_text_106 : decode cX8_text 106 = .ok (.iconst 3, 1) := by decide +kernel
theorem dX8_text_107 : decode cX8_text 107 = .ok (.if_icmp .eq 10, 3) := by decide +kernel
theorem dX8_text_110 : decode cX8_text 110 = .ok (.aload_n 0, 1) := by decide +kernel
theorem dX8_text_111 : decode cX8_text 111 = .ok (.invokevirtual 281, 3) := by decide +kernel
theorem dX8_text_114 : decode cX8_text 114 = .ok (.goto (-19), 3) := by decide +kernel
theorem dX8_text_117 : decode cX8_text 117 = .ok (.aload_n 0, 1) := by decide +kernel
theorem dX8_text_118 : decode cX8_text 118 = .ok (.iconst 0, 1) := by decide +kernel
theorem dX8_text_119 : decode cX8_text 119 = .ok (.putfield 115, 3) := by decide +kernel
theorem dX8_text_122 : decode cX8_text 122 = .ok (.aload_n 0, 1) := by decide +kernel
theorem dX8_text_123 : decode cX8_text 123 = .ok (.aload_n 0, 1) := by decide +kernel
theorem dX8_text_124 : decode cX8_text 124 = .ok (.getfield 162, 3) := by decide +kernel
theorem dX8_text_127 : decode cX8_text 127 = .ok (.putfield 284, 3) := by decide +kernel
theorem dX8_text_130 : decode cX8_text 130 = .ok (.aload_n 0, 1) := by decide +kernel
theorem dX8_text_131 : decode cX8_text 131 = .ok (.aload_n 0, 1) := by decide +kernel
theorem dX8_text_132 : decode cX8_text 132 = .ok (.getfield 162, 3) := by decide +kernel
theorem dX8_text_135 : decode cX8_text 135 = .ok (.ifCond .ne 7, 3) := by decide +kernel
theorem dX8_text_138 : decode cX8_text 138 = .ok (.iconst (-1), 1) := by decide +kernel
theorem dX8_text_139 : decode cX8_text 139 = .ok (.goto 7, 3) := by decide +kernel
theorem dX8_text_142 : decode cX8_text 142 = .ok (.aload_n 0, 1) := by decide +kernel
theorem dX8_text_143 : decode cX8_text 143 = .ok (.getfield 165, 3) := by decide +kernel
theorem dX8_text_146 : decode cX8_text 146 = .ok (.putfield 43, 3) := by decide +kernel
theorem dX8_text_149 : decode cX8_text 149 = .ok (.aload_n 0, 1) := by decide +kernel
theorem dX8_text_150 : decode cX8_text 150 = .ok (.getfield 162, 3) := by decide +kernel
theorem dX8_text_153 : decode cX8_text 153 = .ok (.ifCond .eq 14, 3) := by decide +kernel
theorem dX8_text_156 : decode cX8_text 156 = .ok (.aload_n 0, 1) := by decide +kernel
theorem dX8_text_157 : decode cX8_text 157 = .ok (.iconst 1, 1) := by decide +kernel
theorem dX8_text_158 : decode cX8_text 158 = .ok (.invokevirtual 277, 3) := by decide +kernel
theorem dX8_text_161 : decode cX8_text 161 = .ok (.aload_n 0, 1) := by decide +kernel
theorem dX8_text_162 : decode cX8_text 162 = .ok (.invokevirtual 109, 3) := by decide +kernel
theorem dX8_text_165 : decode cX8_text 165 = .ok (.iconst (-1), 1) := by decide +kernel
theorem dX8_text_166 : decode cX8_text 166 = .ok (.ireturn, 1) := by decide +kernel
theorem dX8_text_167 : decode cX8_text 167 = .ok (.aload_n 0, 1) := by decide +kernel
theorem dX8_text_168 : decode cX8_text 168 = .ok (.invokevirtual 109, 3) := by decide +kernel
theorem dX8_text_171 : decode cX8_text 171 = .ok (.iconst 0, 1) := by decide +kernel
theorem dX8_text_172 : decode cX8_text 172 = .ok (.istore_n 2, 1) := by decide +kernel
theorem dX8_text_173 : decode cX8_text 173 = .ok (.iload_n 2, 1) := by decide +kernel
theorem dX8_text_174 : decode cX8_text 174 = .ok (.sipush 242, 3) := by decide +kernel
theorem dX8_text_177 : decode cX8_text 177 = .ok (.if_icmp .ge 31, 3) := by decide +kernel
theorem dX8_text_180 : decode cX8_text 180 = .ok (.aload_n 0, 1) := by decide +kernel
theorem dX8_text_181 : decode cX8_text 181 = .ok (.getfield 37, 3) := by decide +kernel
theorem dX8_text_184 : decode cX8_text 184 = .ok (.iload_n 2, 1) := by decide +kernel
theorem dX8_text_185 : decode cX8_text 185 = .ok (.iload_n 2, 1) := by decide +kernel
theorem dX8_text_186 : decode cX8_text 186 = .ok (.bipush 64, 2) := by decide +kernel
theorem dX8_text_188 : decode cX8_text 188 = .ok (.if_icmp .ge 12, 3) := by decide +kernel
theorem dX8_text_191 : decode cX8_text 191 = .ok (.aload_n 0, 1) := by decide +kernel
theorem dX8_text_192 : decode cX8_text 192 = .ok (.getfield 56, 3) := by decide +kernel
theorem dX8_text_195 : decode cX8_text 195 = .ok (.iload_n 2, 1) := by decide +kernel
theorem dX8_text_196 : decode cX8_text 196 = .ok (.iaload, 1) := by decide +kernel
theorem dX8_text_197 : decode cX8_text 197 = .ok (.goto 4, 3) := by decide +kernel
theorem dX8_text_200 : decode cX8_text 200 = .ok (.iconst 0, 1) := by decide +kernel
theorem dX8_text_201 : decode cX8_text 201 = .ok (.iastore, 1) := by decide +kernel
theorem dX8_text_202 : decode cX8_text 202 = .ok (.iinc 2 1, 3) := by decide +kernel
theorem dX8_text_205 : decode cX8_text 205 = .ok (.goto (-32), 3) := by decide +kernel
theorem dX8_text_208 : decode cX8_text 208 = .ok (.aload_n 0, 1) := by decide +kernel
theorem dX8_text_209 : decode cX8_text 209 = .ok (.iconst 0, 1) := by decide +kernel
theorem dX8_text_210 : decode cX8_text 210 = .ok (.putfield 287, 3) := by decide +kernel
theorem dX8_text_213 : decode cX8_text 213 = .ok (.aload_n 0, 1) := by decide +kernel
theorem dX8_text_214 : decode cX8_text 214 = .ok (.getfield 270, 3) := by decide +kernel
theorem dX8_text_217 : decode cX8_text 217 = .ok (.ireturn, 1) := by decide +kernel
theorem dX8_fault_0 : decode cX8_fault 0 = .ok (.aload_n 0, 1) := by decide +kernel
theorem dX8_fault_1 : decode cX8_fault 1 = .ok (.iconst 0, 1) := by decide +kernel
theorem dX8_fault_2 : decode cX8_fault 2 = .ok (.putfield 112, 3) := by decide +kernel
theorem dX8_fault_5 : decode cX8_fault 5 = .ok (.iload_n 1, 1) := by decide +kernel
theorem dX8_fault_6 : decode cX8_fault 6 = .ok (.ifCond .ne 10, 3) := by decide +kernel
theorem dX8_fault_9 : decode cX8_fault 9 = .ok (.aload_n 0, 1) := by decide +kernel
theorem dX8_fault_10 : decode cX8_fault 10 = .ok (.getfield 284, 3) := by decide +kernel
theorem dX8_fault_13 : decode cX8_fault 13 = .ok (.goto 16, 3) := by decide +kernel
theorem dX8_fault_16 : decode cX8_fault 16 = .ok (.iload_n 1, 1) := by decide +kernel
theorem dX8_fault_17 : decode cX8_fault 17 = .ok (.iconst 1, 1) := by decide +kernel
theorem dX8_fault_18 : decode cX8_fault 18 = .ok (.if_icmp .ne 10, 3) := by decide +kernel
theorem dX8_fault_21 : decode cX8_fault 21 = .ok (.aload_n 0, 1) := by decide +kernel
theorem dX8_fault_22 : decode cX8_fault 22 = .ok (.getfield 43, 3) := by decide +kernel
theorem dX8_fault_25 : decode cX8_fault 25 = .ok (.goto 4, 3) := by decide +kernel
theorem dX8_fault_28 : decode cX8_fault 28 = .ok (.iconst (-1), 1) := by decide +kernel
theorem dX8_fault_29 : decode cX8_fault 29 = .ok (.ireturn, 1) := by decide +kernel
theorem dX8_laysMiles_0 : decode cX8_laysMiles 0 = .ok (.iconst 0, 1) := by decide +kernel
theorem dX8_laysMiles_1 : decode cX8_laysMiles 1 = .ok (.istore_n 1, 1) := by decide +kernel
theorem dX8_laysMiles_2 : decode cX8_laysMiles 2 = .ok (.iload_n 1, 1) := by decide +kernel
theorem dX8_laysMiles_3 : decode cX8_laysMiles 3 = .ok (.bipush 12, 2) := by decide +kernel
theorem dX8_laysMiles_5 : decode cX8_laysMiles 5 = .ok (.if_icmp .ge 49, 3) := by decide +kernel
theorem dX8_laysMiles_8 : decode cX8_laysMiles 8 = .ok (.iconst 0, 1) := by decide +kernel
theorem dX8_laysMiles_9 : decode cX8_laysMiles 9 = .ok (.istore_n 2, 1) := by decide +kernel
theorem dX8_laysMiles_10 : decode cX8_laysMiles 10 = .ok (.iload_n 2, 1) := by decide +kernel
theorem dX8_laysMiles_11 : decode cX8_laysMiles 11 = .ok (.bipush 12, 2) := by decide +kernel
theorem dX8_laysMiles_13 : decode cX8_laysMiles 13 = .ok (.if_icmp .ge 35, 3) := by decide +kernel
theorem dX8_laysMiles_16 : decode cX8_laysMiles 16 = .ok (.aload_n 0, 1) := by decide +kernel
theorem dX8_laysMiles_17 : decode cX8_laysMiles 17 = .ok (.getfield 34, 3) := by decide +kernel
theorem dX8_laysMiles_20 : decode cX8_laysMiles 20 = .ok (.bipush 12, 2) := by decide +kernel
theorem dX8_laysMiles_22 : decode cX8_laysMiles 22 = .ok (.iload_n 1, 1) := by decide +kernel
theorem dX8_laysMiles_23 : decode cX8_laysMiles 23 = .ok (.imul, 1) := by decide +kernel
theorem dX8_laysMiles_24 : decode cX8_laysMiles 24 = .ok (.iload_n 2, 1) := by decide +kernel
theorem dX8_laysMiles_25 : decode cX8_laysMiles 25 = .ok (.iadd, 1) := by decide +kernel
theorem dX8_laysMiles_26 : decode cX8_laysMiles 26 = .ok (.iload_n 1, 1) := by decide +kernel
theorem dX8_laysMiles_27 : decode cX8_laysMiles 27 = .ok (.iload_n 2, 1) := by decide +kernel
theorem dX8_laysMiles_28 : decode cX8_laysMiles 28 = .ok (.if_icmp .ne 7, 3) := by decide +kernel
theorem dX8_laysMiles_31 : decode cX8_laysMiles 31 = .ok (.iconst 0, 1) := by decide +kernel
theorem dX8_laysMiles_32 : decode cX8_laysMiles 32 = .ok (.goto 9, 3) := by decide +kernel
theorem dX8_laysMiles_35 : decode cX8_laysMiles 35 = .ok (.aload_n 0, 1) := by decide +kernel
theorem dX8_laysMiles_36 : decode cX8_laysMiles 36 = .ok (.iload_n 1, 1) := by decide +kernel
theorem dX8_laysMiles_37 : decode cX8_laysMiles 37 = .ok (.iload_n 2, 1) := by decide +kernel
theorem dX8_laysMiles_38 : decode cX8_laysMiles 38 = .ok (.invokevirtual 290, 3) := by decide +kernel
theorem dX8_laysMiles_41 : decode cX8_laysMiles 41 = .ok (.iastore, 1) := by decide +kernel
theorem dX8_laysMiles_42 : decode cX8_laysMiles 42 = .ok (.iinc 2 1, 3) := by decide +kernel
theorem dX8_laysMiles_45 : decode cX8_laysMiles 45 = .ok (.goto (-35), 3) := by decide +kernel
theorem dX8_laysMiles_48 : decode cX8_laysMiles 48 = .ok (.iinc 1 1, 3) := by decide +kernel
theorem dX8_laysMiles_51 : decode cX8_laysMiles 51 = .ok (.goto (-49), 3) := by decide +kernel
theorem dX8_laysMiles_54 : decode cX8_laysMiles 54 = .ok (.iconst 0, 1) := by decide +kernel
theorem dX8_laysMiles_55 : decode cX8_laysMiles 55 = .ok (.istore_n 1, 1) := by decide +kernel
theorem dX8_laysMiles_56 : decode cX8_laysMiles 56 = .ok (.iload_n 1, 1) := by decide +kernel
theorem dX8_laysMiles_57 : decode cX8_laysMiles 57 = .ok (.bipush 12, 2) := by decide +kernel
theorem dX8_laysMiles_59 : decode cX8_laysMiles 59 = .ok (.if_icmp .ge 89, 3) := by decide +kernel
theorem dX8_laysMiles_62 : decode cX8_laysMiles 62 = .ok (.iconst 0, 1) := by decide +kernel
theorem dX8_laysMiles_63 : decode cX8_laysMiles 63 = .ok (.istore_n 2, 1) := by decide +kernel
theorem dX8_laysMiles_64 : decode cX8_laysMiles 64 = .ok (.iload_n 2, 1) := by decide +kernel
theorem dX8_laysMiles_65 : decode cX8_laysMiles 65 = .ok (.bipush 12, 2) := by decide +kernel
theorem dX8_laysMiles_67 : decode cX8_laysMiles 67 = .ok (.if_icmp .ge 75, 3) := by decide +kernel
theorem dX8_laysMiles_70 : decode cX8_laysMiles 70 = .ok (.iconst 0, 1) := by decide +kernel
theorem dX8_laysMiles_71 : decode cX8_laysMiles 71 = .ok (.istore_n 3, 1) := by decide +kernel
theorem dX8_laysMiles_72 : decode cX8_laysMiles 72 = .ok (.iload_n 3, 1) := by decide +kernel
theorem dX8_laysMiles_73 : decode cX8_laysMiles 73 = .ok (.bipush 12, 2) := by decide +kernel
theorem dX8_laysMiles_75 : decode cX8_laysMiles 75 = .ok (.if_icmp .ge 61, 3) := by decide +kernel
theorem dX8_laysMiles_78 : decode cX8_laysMiles 78 = .ok (.aload_n 0, 1) := by decide +kernel
theorem dX8_laysMiles_79 : decode cX8_laysMiles 79 = .ok (.getfield 34, 3) := by decide +kernel
theorem dX8_laysMiles_82 : decode cX8_laysMiles 82 = .ok (.bipush 12, 2) := by decide +kernel
theorem dX8_laysMiles_84 : decode cX8_laysMiles 84 = .ok (.iload_n 2, 1) := by decide +kernel
theorem dX8_laysMiles_85 : decode cX8_laysMiles 85 = .ok (.imul, 1) := by decide +kernel
theorem dX8_laysMiles_86 : decode cX8_laysMiles 86 = .ok (.iload_n 1, 1) := by decide +kernel
theorem dX8_laysMiles_87 : decode cX8_laysMiles 87 = .ok (.iadd, 1) := by decide +kernel
theorem dX8_laysMiles_88 : decode cX8_laysMiles 88 = .ok (.iaload, 1) := by decide +kernel
theorem dX8_laysMiles_89 : decode cX8_laysMiles 89 = .ok (.aload_n 0, 1) := by decide +kernel
theorem dX8_laysMiles_90 : decode cX8_laysMiles 90 = .ok (.getfield 34, 3) := by decide +kernel
theorem dX8_laysMiles_93 : decode cX8_laysMiles 93 = .ok (.bipush 12, 2) := by decide +kernel
theorem dX8_laysMiles_95 : decode cX8_laysMiles 95 = .ok (.iload_n 1, 1) := by decide +kernel
theorem dX8_laysMiles_96 : decode cX8_laysMiles 96 = .ok (.imul, 1) := by decide +kernel
theorem dX8_laysMiles_97 : decode cX8_laysMiles 97 = .ok (.iload_n 3, 1) := by decide +kernel
theorem dX8_laysMiles_98 : decode cX8_laysMiles 98 = .ok (.iadd, 1) := by decide +kernel
theorem dX8_laysMiles_99 : decode cX8_laysMiles 99 = .ok (.iaload, 1) := by decide +kernel
theorem dX8_laysMiles_100 : decode cX8_laysMiles 100 = .ok (.iadd, 1) := by decide +kernel
theorem dX8_laysMiles_101 : decode cX8_laysMiles 101 = .ok (.istore 4, 2) := by decide +kernel
theorem dX8_laysMiles_103 : decode cX8_laysMiles 103 = .ok (.aload_n 0, 1) := by decide +kernel
theorem dX8_laysMiles_104 : decode cX8_laysMiles 104 = .ok (.getfield 34, 3) := by decide +kernel
theorem dX8_laysMiles_107 : decode cX8_laysMiles 107 = .ok (.bipush 12, 2) := by decide +kernel
theorem dX8_laysMiles_109 : decode cX8_laysMiles 109 = .ok (.iload_n 2, 1) := by decide +kernel
theorem dX8_laysMiles_110 : decode cX8_laysMiles 110 = .ok (.imul, 1) := by decide +kernel
theorem dX8_laysMiles_111 : decode cX8_laysMiles 111 = .ok (.iload_n 3, 1) := by decide +kernel
theorem dX8_laysMiles_112 : decode cX8_laysMiles 112 = .ok (.iadd, 1) := by decide +kernel
theorem dX8_laysMiles_113 : decode cX8_laysMiles 113 = .ok (.aload_n 0, 1) := by decide +kernel
theorem dX8_laysMiles_114 : decode cX8_laysMiles 114 = .ok (.getfield 34, 3) := by decide +kernel
theorem dX8_laysMiles_117 : decode cX8_laysMiles 117 = .ok (.bipush 12, 2) := by decide +kernel
theorem dX8_laysMiles_119 : decode cX8_laysMiles 119 = .ok (.iload_n 2, 1) := by decide +kernel
theorem dX8_laysMiles_120 : decode cX8_laysMiles 120 = .ok (.imul, 1) := by decide +kernel
theorem dX8_laysMiles_121 : decode cX8_laysMiles 121 = .ok (.iload_n 3, 1) := by decide +kernel
theorem dX8_laysMiles_122 : decode cX8_laysMiles 122 = .ok (.iadd, 1) := by decide +kernel
theorem dX8_laysMiles_123 : decode cX8_laysMiles 123 = .ok (.iaload, 1) := by decide +kernel
theorem dX8_laysMiles_124 : decode cX8_laysMiles 124 = .ok (.iload 4, 2) := by decide +kernel
theorem dX8_laysMiles_126 : decode cX8_laysMiles 126 = .ok (.invokestatic 293, 3) := by decide +kernel
theorem dX8_laysMiles_129 : decode cX8_laysMiles 129 = .ok (.iastore, 1) := by decide +kernel
theorem dX8_laysMiles_130 : decode cX8_laysMiles 130 = .ok (.iinc 3 1, 3) := by decide +kernel
theorem dX8_laysMiles_133 : decode cX8_laysMiles 133 = .ok (.goto (-61), 3) := by decide +kernel
theorem dX8_laysMiles_136 : decode cX8_laysMiles 136 = .ok (.iinc 2 1, 3) := by decide +kernel
theorem dX8_laysMiles_139 : decode cX8_laysMiles 139 = .ok (.goto (-75), 3) := by decide +kernel
theorem dX8_laysMiles_142 : decode cX8_laysMiles 142 = .ok (.iinc 1 1, 3) := by decide +kernel
theorem dX8_laysMiles_145 : decode cX8_laysMiles 145 = .ok (.goto (-89), 3) := by decide +kernel
theorem dX8_laysMiles_148 : decode cX8_laysMiles 148 = .ok (.return_, 1) := by decide +kernel
theorem dX8_legOf_0 : decode cX8_legOf 0 = .ok (.iconst 0, 1) := by decide +kernel
theorem dX8_legOf_1 : decode cX8_legOf 1 = .ok (.istore_n 3, 1) := by decide +kernel
theorem dX8_legOf_2 : decode cX8_legOf 2 = .ok (.iload_n 3, 1) := by decide +kernel
theorem dX8_legOf_3 : decode cX8_legOf 3 = .ok (.aload_n 0, 1) := by decide +kernel
theorem dX8_legOf_4 : decode cX8_legOf 4 = .ok (.getfield 199, 3) := by decide +kernel
theorem dX8_legOf_7 : decode cX8_legOf 7 = .ok (.if_icmp .ge 46, 3) := by decide +kernel
theorem dX8_legOf_10 : decode cX8_legOf 10 = .ok (.aload_n 0, 1) := by decide +kernel
theorem dX8_legOf_11 : decode cX8_legOf 11 = .ok (.getfield 13, 3) := by decide +kernel
theorem dX8_legOf_14 : decode cX8_legOf 14 = .ok (.iconst 3, 1) := by decide +kernel
theorem dX8_legOf_15 : decode cX8_legOf 15 = .ok (.iload_n 3, 1) := by decide +kernel
theorem dX8_legOf_16 : decode cX8_legOf 16 = .ok (.imul, 1) := by decide +kernel
theorem dX8_legOf_17 : decode cX8_legOf 17 = .ok (.iaload, 1) := by decide +kernel
theorem dX8_legOf_18 : decode cX8_legOf 18 = .ok (.aload_n 0, 1) := by decide +kernel
theorem dX8_legOf_19 : decode cX8_legOf 19 = .ok (.getfield 13, 3) := by decide +kernel
theorem dX8_legOf_22 : decode cX8_legOf 22 = .ok (.iconst 3, 1) := by decide +kernel
theorem dX8_legOf_23 : decode cX8_legOf 23 = .ok (.iload_n 3, 1) := by decide +kernel
theorem dX8_legOf_24 : decode cX8_legOf 24 = .ok (.imul, 1) := by decide +kernel
theorem dX8_legOf_25 : decode cX8_legOf 25 = .ok (.iconst 1, 1) := by decide +kernel
theorem dX8_legOf_26 : decode cX8_legOf 26 = .ok (.iadd, 1) := by decide +kernel
theorem dX8_legOf_27 : decode cX8_legOf 27 = .ok (.iaload, 1) := by decide +kernel
theorem dX8_legOf_28 : decode cX8_legOf 28 = .ok (.iload_n 1, 1) := by decide +kernel
theorem dX8_legOf_29 : decode cX8_legOf 29 = .ok (.iload_n 2, 1) := by decide +kernel
theorem dX8_legOf_30 : decode cX8_legOf 30 = .ok (.invokestatic 209, 3) := by decide +kernel
theorem dX8_legOf_33 : decode cX8_legOf 33 = .ok (.ifCond .eq 14, 3) := by decide +kernel
theorem dX8_legOf_36 : decode cX8_legOf 36 = .ok (.aload_n 0, 1) := by decide +kernel
theorem dX8_legOf_37 : decode cX8_legOf 37 = .ok (.getfield 13, 3) := by decide +kernel
theorem dX8_legOf_40 : decode cX8_legOf 40 = .ok (.iconst 3, 1) := by decide +kernel
theorem dX8_legOf_41 : decode cX8_legOf 41 = .ok (.iload_n 3, 1) := by decide +kernel
theorem dX8_legOf_42 : decode cX8_legOf 42 = .ok (.imul, 1) := by decide +kernel
theorem dX8_legOf_43 : decode cX8_legOf 43 = .ok (.iconst 2, 1) := by decide +kernel
theorem dX8_legOf_44 : decode cX8_legOf 44 = .ok (.iadd, 1) := by decide +kernel
theorem dX8_legOf_45 : decode cX8_legOf 45 = .ok (.iaload, 1) := by decide +kernel
theorem dX8_legOf_46 : decode cX8_legOf 46 = .ok (.ireturn, 1) := by decide +kernel
theorem dX8_legOf_47 : decode cX8_legOf 47 = .ok (.iinc 3 1, 3) := by decide +kernel
theorem dX8_legOf_50 : decode cX8_legOf 50 = .ok (.goto (-48), 3) := by decide +kernel
theorem dX8_legOf_53 : decode cX8_legOf 53 = .ok (.ldc 245, 2) := by decide +kernel
theorem dX8_legOf_55 : decode cX8_legOf 55 = .ok (.ireturn, 1) := by decide +kernel
theorem dX8_isPlace_0 : decode cX8_isPlace 0 = .ok (.iload_n 1, 1) := by decide +kernel
theorem dX8_isPlace_1 : decode cX8_isPlace 1 = .ok (.ifCond .lt 15, 3) := by decide +kernel
theorem dX8_isPlace_4 : decode cX8_isPlace 4 = .ok (.iload_n 1, 1) := by decide +kernel
theorem dX8_isPlace_5 : decode cX8_isPlace 5 = .ok (.aload_n 0, 1) := by decide +kernel
theorem dX8_isPlace_6 : decode cX8_isPlace 6 = .ok (.getfield 182, 3) := by decide +kernel
theorem dX8_isPlace_9 : decode cX8_isPlace 9 = .ok (.if_icmp .ge 7, 3) := by decide +kernel
theorem dX8_isPlace_12 : decode cX8_isPlace 12 = .ok (.iconst 1, 1) := by decide +kernel
theorem dX8_isPlace_13 : decode cX8_isPlace 13 = .ok (.goto 4, 3) := by decide +kernel
theorem dX8_isPlace_16 : decode cX8_isPlace 16 = .ok (.iconst 0, 1) := by decide +kernel
theorem dX8_isPlace_17 : decode cX8_isPlace 17 = .ok (.ireturn, 1) := by decide +kernel
theorem dX8_isCarrier_0 : decode cX8_isCarrier 0 = .ok (.iload_n 1, 1) := by decide +kernel
theorem dX8_isCarrier_1 : decode cX8_isCarrier 1 = .ok (.ifCond .lt 15, 3) := by decide +kernel
theorem dX8_isCarrier_4 : decode cX8_isCarrier 4 = .ok (.iload_n 1, 1) := by decide +kernel
theorem dX8_isCarrier_5 : decode cX8_isCarrier 5 = .ok (.aload_n 0, 1) := by decide +kernel
theorem dX8_isCarrier_6 : decode cX8_isCarrier 6 = .ok (.getfield 189, 3) := by decide +kernel
theorem dX8_isCarrier_9 : decode cX8_isCarrier 9 = .ok (.if_icmp .ge 7, 3) := by decide +kernel
theorem dX8_isCarrier_12 : decode cX8_isCarrier 12 = .ok (.iconst 1, 1) := by decide +kernel
theorem dX8_isCarrier_13 : decode cX8_isCarrier 13 = .ok (.goto 4, 3) := by decide +kernel
theorem dX8_isCarrier_16 : decode cX8_isCarrier 16 = .ok (.iconst 0, 1) := by decide +kernel
theorem dX8_isCarrier_17 : decode cX8_isCarrier 17 = .ok (.ireturn, 1) := by decide +kernel
theorem dX8_isProviso_0 : decode cX8_isProviso 0 = .ok (.iload_n 1, 1) := by decide +kernel
theorem dX8_isProviso_1 : decode cX8_isProviso 1 = .ok (.ifCond .lt 15, 3) := by decide +kernel
theorem dX8_isProviso_4 : decode cX8_isProviso 4 = .ok (.iload_n 1, 1) := by decide +kernel
theorem dX8_isProviso_5 : decode cX8_isProviso 5 = .ok (.aload_n 0, 1) := by decide +kernel
theorem dX8_isProviso_6 : decode cX8_isProviso 6 = .ok (.getfield 223, 3) := by decide +kernel
theorem dX8_isProviso_9 : decode cX8_isProviso 9 = .ok (.if_icmp .ge 7, 3) := by decide +kernel
theorem dX8_isProviso_12 : decode cX8_isProviso 12 = .ok (.iconst 1, 1) := by decide +kernel
theorem dX8_isProviso_13 : decode cX8_isProviso 13 = .ok (.goto 4, 3) := by decide +kernel
theorem dX8_isProviso_16 : decode cX8_isProviso 16 = .ok (.iconst 0, 1) := by decide +kernel
theorem dX8_isProviso_17 : decode cX8_isProviso 17 = .ok (.ireturn, 1) := by decide +kernel
theorem dX8_isTicket_0 : decode cX8_isTicket 0 = .ok (.iload_n 1, 1) := by decide +kernel
theorem dX8_isTicket_1 : decode cX8_isTicket 1 = .ok (.ifCond .lt 15, 3) := by decide +kernel
theorem dX8_isTicket_4 : decode cX8_isTicket 4 = .ok (.iload_n 1, 1) := by decide +kernel
theorem dX8_isTicket_5 : decode cX8_isTicket 5 = .ok (.aload_n 0, 1) := by decide +kernel
theorem dX8_isTicket_6 : decode cX8_isTicket 6 = .ok (.getfield 192, 3) := by decide +kernel
theorem dX8_isTicket_9 : decode cX8_isTicket 9 = .ok (.if_icmp .ge 7, 3) := by decide +kernel
theorem dX8_isTicket_12 : decode cX8_isTicket 12 = .ok (.iconst 1, 1) := by decide +kernel
theorem dX8_isTicket_13 : decode cX8_isTicket 13 = .ok (.goto 4, 3) := by decide +kernel
theorem dX8_isTicket_16 : decode cX8_isTicket 16 = .ok (.iconst 0, 1) := by decide +kernel
theorem dX8_isTicket_17 : decode cX8_isTicket 17 = .ok (.ireturn, 1) := by decide +kernel
theorem dX8_couponsOf_0 : decode cX8_couponsOf 0 = .ok (.aload_n 0, 1) := by decide +kernel
theorem dX8_couponsOf_1 : decode cX8_couponsOf 1 = .ok (.getfield 25, 3) := by decide +kernel
theorem dX8_couponsOf_4 : decode cX8_couponsOf 4 = .ok (.iconst 4, 1) := by decide +kernel
theorem dX8_couponsOf_5 : decode cX8_couponsOf 5 = .ok (.iload_n 1, 1) := by decide +kernel
theorem dX8_couponsOf_6 : decode cX8_couponsOf 6 = .ok (.imul, 1) := by decide +kernel
theorem dX8_couponsOf_7 : decode cX8_couponsOf 7 = .ok (.iconst 2, 1) := by decide +kernel
theorem dX8_couponsOf_8 : decode cX8_couponsOf 8 = .ok (.iadd, 1) := by decide +kernel
theorem dX8_couponsOf_9 : decode cX8_couponsOf 9 = .ok (.iaload, 1) := by decide +kernel
theorem dX8_couponsOf_10 : decode cX8_couponsOf 10 = .ok (.ireturn, 1) := by decide +kernel
theorem dX8_isCoupon_0 : decode cX8_isCoupon 0 = .ok (.aload_n 0, 1) := by decide +kernel
theorem dX8_isCoupon_1 : decode cX8_isCoupon 1 = .ok (.iload_n 1, 1) := by decide +kernel
theorem dX8_isCoupon_2 : decode cX8_isCoupon 2 = .ok (.invokevirtual 298, 3) := by decide +kernel
theorem dX8_isCoupon_5 : decode cX8_isCoupon 5 = .ok (.ifCond .eq 20, 3) := by decide +kernel
theorem dX8_isCoupon_8 : decode cX8_isCoupon 8 = .ok (.iload_n 2, 1) := by decide +kernel
theorem dX8_isCoupon_9 : decode cX8_isCoupon 9 = .ok (.ifCond .lt 16, 3) := by decide +kernel
theorem dX8_isCoupon_12 : decode cX8_isCoupon 12 = .ok (.iload_n 2, 1) := by decide +kernel
theorem dX8_isCoupon_13 : decode cX8_isCoupon 13 = .ok (.aload_n 0, 1) := by decide +kernel
theorem dX8_isCoupon_14 : decode cX8_isCoupon 14 = .ok (.iload_n 1, 1) := by decide +kernel
theorem dX8_isCoupon_15 : decode cX8_isCoupon 15 = .ok (.invokevirtual 301, 3) := by decide +kernel
theorem dX8_isCoupon_18 : decode cX8_isCoupon 18 = .ok (.if_icmp .ge 7, 3) := by decide +kernel
theorem dX8_isCoupon_21 : decode cX8_isCoupon 21 = .ok (.iconst 1, 1) := by decide +kernel
theorem dX8_isCoupon_22 : decode cX8_isCoupon 22 = .ok (.goto 4, 3) := by decide +kernel
theorem dX8_isCoupon_25 : decode cX8_isCoupon 25 = .ok (.iconst 0, 1) := by decide +kernel
theorem dX8_isCoupon_26 : decode cX8_isCoupon 26 = .ok (.ireturn, 1) := by decide +kernel
theorem dX8_milesOf_0 : decode cX8_milesOf 0 = .ok (.aload_n 0, 1) := by decide +kernel
theorem dX8_milesOf_1 : decode cX8_milesOf 1 = .ok (.getfield 34, 3) := by decide +kernel
theorem dX8_milesOf_4 : decode cX8_milesOf 4 = .ok (.bipush 12, 2) := by decide +kernel
theorem dX8_milesOf_6 : decode cX8_milesOf 6 = .ok (.iload_n 1, 1) := by decide +kernel
theorem dX8_milesOf_7 : decode cX8_milesOf 7 = .ok (.imul, 1) := by decide +kernel
theorem dX8_milesOf_8 : decode cX8_milesOf 8 = .ok (.iload_n 2, 1) := by decide +kernel
theorem dX8_milesOf_9 : decode cX8_milesOf 9 = .ok (.iadd, 1) := by decide +kernel
theorem dX8_milesOf_10 : decode cX8_milesOf 10 = .ok (.iaload, 1) := by decide +kernel
theorem dX8_milesOf_11 : decode cX8_milesOf 11 = .ok (.ireturn, 1) := by decide +kernel
theorem dX8_miles_0 : decode cX8_miles 0 = .ok (.aload_n 0, 1) := by decide +kernel
theorem dX8_miles_1 : decode cX8_miles 1 = .ok (.iconst 0, 1) := by decide +kernel
theorem dX8_miles_2 : decode cX8_miles 2 = .ok (.putfield 112, 3) := by decide +kernel
theorem dX8_miles_5 : decode cX8_miles 5 = .ok (.aload_n 0, 1) := by decide +kernel
theorem dX8_miles_6 : decode cX8_miles 6 = .ok (.iload_n 1, 1) := by decide +kernel
theorem dX8_miles_7 : decode cX8_miles 7 = .ok (.invokevirtual 305, 3) := by decide +kernel
theorem dX8_miles_10 : decode cX8_miles 10 = .ok (.ifCond .eq 11, 3) := by decide +kernel
theorem dX8_miles_13 : decode cX8_miles 13 = .ok (.aload_n 0, 1) := by decide +kernel
theorem dX8_miles_14 : decode cX8_miles 14 = .ok (.iload_n 2, 1) := by decide +kernel
theorem dX8_miles_15 : decode cX8_miles 15 = .ok (.invokevirtual 305, 3) := by decide +kernel
theorem dX8_miles_18 : decode cX8_miles 18 = .ok (.ifCond .ne 5, 3) := by decide +kernel
theorem dX8_miles_21 : decode cX8_miles 21 = .ok (.iconst (-1), 1) := by decide +kernel
theorem dX8_miles_22 : decode cX8_miles 22 = .ok (.ireturn, 1) := by decide +kernel
theorem dX8_miles_23 : decode cX8_miles 23 = .ok (.aload_n 0, 1) := by decide +kernel
theorem dX8_miles_24 : decode cX8_miles 24 = .ok (.iload_n 1, 1) := by decide +kernel
theorem dX8_miles_25 : decode cX8_miles 25 = .ok (.iload_n 2, 1) := by decide +kernel
theorem dX8_miles_26 : decode cX8_miles 26 = .ok (.invokevirtual 308, 3) := by decide +kernel
theorem dX8_miles_29 : decode cX8_miles 29 = .ok (.ldc 245, 2) := by decide +kernel
theorem dX8_miles_31 : decode cX8_miles 31 = .ok (.if_icmp .lt 8, 3) := by decide +kernel
theorem dX8_miles_34 : decode cX8_miles 34 = .ok (.bipush (-2), 2) := by decide +kernel
theorem dX8_miles_36 : decode cX8_miles 36 = .ok (.goto 9, 3) := by decide +kernel
theorem dX8_miles_39 : decode cX8_miles 39 = .ok (.aload_n 0, 1) := by decide +kernel
theorem dX8_miles_40 : decode cX8_miles 40 = .ok (.iload_n 1, 1) := by decide +kernel
theorem dX8_miles_41 : decode cX8_miles 41 = .ok (.iload_n 2, 1) := by decide +kernel
theorem dX8_miles_42 : decode cX8_miles 42 = .ok (.invokevirtual 308, 3) := by decide +kernel
theorem dX8_miles_45 : decode cX8_miles 45 = .ok (.ireturn, 1) := by decide +kernel
theorem dX8_way_0 : decode cX8_way 0 = .ok (.aload_n 0, 1) := by decide +kernel
theorem dX8_way_1 : decode cX8_way 1 = .ok (.iconst 0, 1) := by decide +kernel
theorem dX8_way_2 : decode cX8_way 2 = .ok (.putfield 112, 3) := by decide +kernel
theorem dX8_way_5 : decode cX8_way 5 = .ok (.aload_n 0, 1) := by decide +kernel
theorem dX8_way_6 : decode cX8_way 6 = .ok (.iload_n 1, 1) := by decide +kernel
theorem dX8_way_7 : decode cX8_way 7 = .ok (.invokevirtual 305, 3) := by decide +kernel
theorem dX8_way_10 : decode cX8_way 10 = .ok (.ifCond .eq 15, 3) := by decide +kernel
theorem dX8_way_13 : decode cX8_way 13 = .ok (.aload_n 0, 1) := by decide +kernel
theorem dX8_way_14 : decode cX8_way 14 = .ok (.iload_n 2, 1) := by decide +kernel
theorem dX8_way_15 : decode cX8_way 15 = .ok (.invokevirtual 305, 3) := by decide +kernel
theorem dX8_way_18 : decode cX8_way 18 = .ok (.ifCond .eq 7, 3) := by decide +kernel
theorem dX8_way_21 : decode cX8_way 21 = .ok (.iload_n 3, 1) := by decide +kernel
theorem dX8_way_22 : decode cX8_way 22 = .ok (.ifCond .ge 5, 3) := by decide +kernel
theorem dX8_way_25 : decode cX8_way 25 = .ok (.iconst (-1), 1) := by decide +kernel
theorem dX8_way_26 : decode cX8_way 26 = .ok (.ireturn, 1) := by decide +kernel
theorem dX8_way_27 : decode cX8_way 27 = .ok (.aload_n 0, 1) := by decide +kernel
theorem dX8_way_28 : decode cX8_way 28 = .ok (.iload_n 1, 1) := by decide +kernel
theorem dX8_way_29 : decode cX8_way 29 = .ok (.iload_n 2, 1) := by decide +kernel
theorem dX8_way_30 : decode cX8_way 30 = .ok (.invokevirtual 308, 3) := by decide +kernel
theorem dX8_way_33 : decode cX8_way 33 = .ok (.ldc 245, 2) := by decide +kernel
theorem dX8_way_35 : decode cX8_way 35 = .ok (.if_icmp .lt 6, 3) := by decide +kernel
theorem dX8_way_38 : decode cX8_way 38 = .ok (.bipush (-2), 2) := by decide +kernel
theorem dX8_way_40 : decode cX8_way 40 = .ok (.ireturn, 1) := by decide +kernel
theorem dX8_way_41 : decode cX8_way 41 = .ok (.iload_n 1, 1) := by decide +kernel
theorem dX8_way_42 : decode cX8_way 42 = .ok (.istore 4, 2) := by decide +kernel
theorem dX8_way_44 : decode cX8_way 44 = .ok (.iconst 0, 1) := by decide +kernel
theorem dX8_way_45 : decode cX8_way 45 = .ok (.istore 5, 2) := by decide +kernel
theorem dX8_way_47 : decode cX8_way 47 = .ok (.iload 5, 2) := by decide +kernel
theorem dX8_way_49 : decode cX8_way 49 = .ok (.iload_n 3, 1) := by decide +kernel
theorem dX8_way_50 : decode cX8_way 50 = .ok (.if_icmp .ge 64, 3) := by decide +kernel
theorem dX8_way_53 : decode cX8_way 53 = .ok (.iload 4, 2) := by decide +kernel
theorem dX8_way_55 : decode cX8_way 55 = .ok (.iload_n 2, 1) := by decide +kernel
theorem dX8_way_56 : decode cX8_way 56 = .ok (.if_icmp .ne 6, 3) := by decide +kernel
theorem dX8_way_59 : decode cX8_way 59 = .ok (.bipush (-2), 2) := by decide +kernel
theorem dX8_way_61 : decode cX8_way 61 = .ok (.ireturn, 1) := by decide +kernel
theorem dX8_way_62 : decode cX8_way 62 = .ok (.iconst 0, 1) := by decide +kernel
theorem dX8_way_63 : decode cX8_way 63 = .ok (.istore 6, 2) := by decide +kernel
theorem dX8_way_65 : decode cX8_way 65 = .ok (.iload 6, 2) := by decide +kernel
theorem dX8_way_67 : decode cX8_way 67 = .ok (.iload 4, 2) := by decide +kernel
theorem dX8_way_69 : decode cX8_way 69 = .ok (.if_icmp .eq 29, 3) := by decide +kernel
theorem dX8_way_72 : decode cX8_way 72 = .ok (.aload_n 0, 1) := by decide +kernel
theorem dX8_way_73 : decode cX8_way 73 = .ok (.iload 4, 2) := by decide +kernel
theorem dX8_way_75 : decode cX8_way 75 = .ok (.iload 6, 2) := by decide +kernel
theorem dX8_way_77 : decode cX8_way 77 = .ok (.invokevirtual 290, 3) := by decide +kernel
theorem dX8_way_80 : decode cX8_way 80 = .ok (.aload_n 0, 1) := by decide +kernel
theorem dX8_way_81 : decode cX8_way 81 = .ok (.iload 6, 2) := by decide +kernel
theorem dX8_way_83 : decode cX8_way 83 = .ok (.iload_n 2, 1) := by decide +kernel
theorem dX8_way_84 : decode cX8_way 84 = .ok (.invokevirtual 308, 3) := by decide +kernel
theorem dX8_way_87 : decode cX8_way 87 = .ok (.iadd, 1) := by decide +kernel
theorem dX8_way_88 : decode cX8_way 88 = .ok (.aload_n 0, 1) := by decide +kernel
theorem dX8_way_89 : decode cX8_way 89 = .ok (.iload 4, 2) := by decide +kernel
theorem dX8_way_91 : decode cX8_way 91 = .ok (.iload_n 2, 1) := by decide +kernel
theorem dX8_way_92 : decode cX8_way 92 = .ok (.invokevirtual 308, 3) := by decide +kernel
theorem dX8_way_95 : decode cX8_way 95 = .ok (.if_icmp .eq 9, 3) := by decide +kernel
theorem dX8_way_98 : decode cX8_way 98 = .ok (.iinc 6 1, 3) := by decide +kernel
theorem dX8_way_101 : decode cX8_way 101 = .ok (.goto (-36), 3) := by decide +kernel
theorem dX8_way_104 : decode cX8_way 104 = .ok (.iload 6, 2) := by decide +kernel
theorem dX8_way_106 : decode cX8_way 106 = .ok (.istore 4, 2) := by decide +kernel
theorem dX8_way_108 : decode cX8_way 108 = .ok (.iinc 5 1, 3) := by decide +kernel
theorem dX8_way_111 : decode cX8_way 111 = .ok (.goto (-64), 3) := by decide +kernel
theorem dX8_way_114 : decode cX8_way 114 = .ok (.iload 4, 2) := by decide +kernel
theorem dX8_way_116 : decode cX8_way 116 = .ok (.ireturn, 1) := by decide +kernel
theorem dX8_weightOf_0 : decode cX8_weightOf 0 = .ok (.iconst 0, 1) := by decide +kernel
theorem dX8_weightOf_1 : decode cX8_weightOf 1 = .ok (.istore_n 2, 1) := by decide +kernel
theorem dX8_weightOf_2 : decode cX8_weightOf 2 = .ok (.iload_n 2, 1) := by decide +kernel
theorem dX8_weightOf_3 : decode cX8_weightOf 3 = .ok (.aload_n 0, 1) := by decide +kernel
theorem dX8_weightOf_4 : decode cX8_weightOf 4 = .ok (.getfield 220, 3) := by decide +kernel
theorem dX8_weightOf_7 : decode cX8_weightOf 7 = .ok (.if_icmp .ge 32, 3) := by decide +kernel
theorem dX8_weightOf_10 : decode cX8_weightOf 10 = .ok (.iload_n 1, 1) := by decide +kernel
theorem dX8_weightOf_11 : decode cX8_weightOf 11 = .ok (.aload_n 0, 1) := by decide +kernel
theorem dX8_weightOf_12 : decode cX8_weightOf 12 = .ok (.getfield 16, 3) := by decide +kernel
theorem dX8_weightOf_15 : decode cX8_weightOf 15 = .ok (.iconst 2, 1) := by decide +kernel
theorem dX8_weightOf_16 : decode cX8_weightOf 16 = .ok (.iload_n 2, 1) := by decide +kernel
theorem dX8_weightOf_17 : decode cX8_weightOf 17 = .ok (.imul, 1) := by decide +kernel
theorem dX8_weightOf_18 : decode cX8_weightOf 18 = .ok (.iaload, 1) := by decide +kernel
theorem dX8_weightOf_19 : decode cX8_weightOf 19 = .ok (.if_icmp .gt 14, 3) := by decide +kernel
theorem dX8_weightOf_22 : decode cX8_weightOf 22 = .ok (.aload_n 0, 1) := by decide +kernel
theorem dX8_weightOf_23 : decode cX8_weightOf 23 = .ok (.getfield 16, 3) := by decide +kernel
theorem dX8_weightOf_26 : decode cX8_weightOf 26 = .ok (.iconst 2, 1) := by decide +kernel
theorem dX8_weightOf_27 : decode cX8_weightOf 27 = .ok (.iload_n 2, 1) := by decide +kernel
theorem dX8_weightOf_28 : decode cX8_weightOf 28 = .ok (.imul, 1) := by decide +kernel
theorem dX8_weightOf_29 : decode cX8_weightOf 29 = .ok (.iconst 1, 1) := by decide +kernel
theorem dX8_weightOf_30 : decode cX8_weightOf 30 = .ok (.iadd, 1) := by decide +kernel
theorem dX8_weightOf_31 : decode cX8_weightOf 31 = .ok (.iaload, 1) := by decide +kernel
theorem dX8_weightOf_32 : decode cX8_weightOf 32 = .ok (.ireturn, 1) := by decide +kernel
theorem dX8_weightOf_33 : decode cX8_weightOf 33 = .ok (.iinc 2 1, 3) := by decide +kernel
theorem dX8_weightOf_36 : decode cX8_weightOf 36 = .ok (.goto (-34), 3) := by decide +kernel
theorem dX8_weightOf_39 : decode cX8_weightOf 39 = .ok (.bipush 100, 2) := by decide +kernel
theorem dX8_weightOf_41 : decode cX8_weightOf 41 = .ok (.ireturn, 1) := by decide +kernel
theorem dX8_weight_0 : decode cX8_weight 0 = .ok (.aload_n 0, 1) := by decide +kernel
theorem dX8_weight_1 : decode cX8_weight 1 = .ok (.iconst 0, 1) := by decide +kernel
theorem dX8_weight_2 : decode cX8_weight 2 = .ok (.putfield 112, 3) := by decide +kernel
theorem dX8_weight_5 : decode cX8_weight 5 = .ok (.iload_n 1, 1) := by decide +kernel
theorem dX8_weight_6 : decode cX8_weight 6 = .ok (.iconst 1, 1) := by decide +kernel
theorem dX8_weight_7 : decode cX8_weight 7 = .ok (.if_icmp .lt 18, 3) := by decide +kernel
theorem dX8_weight_10 : decode cX8_weight 10 = .ok (.iload_n 1, 1) := by decide +kernel
theorem dX8_weight_11 : decode cX8_weight 11 = .ok (.ldc_w 311, 3) := by decide +kernel
theorem dX8_weight_14 : decode cX8_weight 14 = .ok (.if_icmp .gt 11, 3) := by decide +kernel
theorem dX8_weight_17 : decode cX8_weight 17 = .ok (.aload_n 0, 1) := by decide +kernel
theorem dX8_weight_18 : decode cX8_weight 18 = .ok (.iload_n 1, 1) := by decide +kernel
theorem dX8_weight_19 : decode cX8_weight 19 = .ok (.invokevirtual 312, 3) := by decide +kernel
theorem dX8_weight_22 : decode cX8_weight 22 = .ok (.goto 4, 3) := by decide +kernel
theorem dX8_weight_25 : decode cX8_weight 25 = .ok (.iconst (-1), 1) := by decide +kernel
theorem dX8_weight_26 : decode cX8_weight 26 = .ok (.ireturn, 1) := by decide +kernel
theorem dX8_baseOf_0 : decode cX8_baseOf 0 = .ok (.iconst 0, 1) := by decide +kernel
theorem dX8_baseOf_1 : decode cX8_baseOf 1 = .ok (.istore 4, 2) := by decide +kernel
theorem dX8_baseOf_3 : decode cX8_baseOf 3 = .ok (.iload 4, 2) := by decide +kernel
theorem dX8_baseOf_5 : decode cX8_baseOf 5 = .ok (.aload_n 0, 1) := by decide +kernel
theorem dX8_baseOf_6 : decode cX8_baseOf 6 = .ok (.getfield 230, 3) := by decide +kernel
theorem dX8_baseOf_9 : decode cX8_baseOf 9 = .ok (.if_icmp .ge 64, 3) := by decide +kernel
theorem dX8_baseOf_12 : decode cX8_baseOf 12 = .ok (.aload_n 0, 1) := by decide +kernel
theorem dX8_baseOf_13 : decode cX8_baseOf 13 = .ok (.getfield 22, 3) := by decide +kernel
theorem dX8_baseOf_16 : decode cX8_baseOf 16 = .ok (.iconst 4, 1) := by decide +kernel
theorem dX8_baseOf_17 : decode cX8_baseOf 17 = .ok (.iload 4, 2) := by decide +kernel
theorem dX8_baseOf_19 : decode cX8_baseOf 19 = .ok (.imul, 1) := by decide +kernel
theorem dX8_baseOf_20 : decode cX8_baseOf 20 = .ok (.iaload, 1) := by decide +kernel
theorem dX8_baseOf_21 : decode cX8_baseOf 21 = .ok (.iload_n 1, 1) := by decide +kernel
theorem dX8_baseOf_22 : decode cX8_baseOf 22 = .ok (.if_icmp .ne 45, 3) := by decide +kernel
theorem dX8_baseOf_25 : decode cX8_baseOf 25 = .ok (.aload_n 0, 1) := by decide +kernel
theorem dX8_baseOf_26 : decode cX8_baseOf 26 = .ok (.getfield 22, 3) := by decide +kernel
theorem dX8_baseOf_29 : decode cX8_baseOf 29 = .ok (.iconst 4, 1) := by decide +kernel
theorem dX8_baseOf_30 : decode cX8_baseOf 30 = .ok (.iload 4, 2) := by decide +kernel
theorem dX8_baseOf_32 : decode cX8_baseOf 32 = .ok (.imul, 1) := by decide +kernel
theorem dX8_baseOf_33 : decode cX8_baseOf 33 = .ok (.iconst 1, 1) := by decide +kernel
theorem dX8_baseOf_34 : decode cX8_baseOf 34 = .ok (.iadd, 1) := by decide +kernel
theorem dX8_baseOf_35 : decode cX8_baseOf 35 = .ok (.iaload, 1) := by decide +kernel
theorem dX8_baseOf_36 : decode cX8_baseOf 36 = .ok (.aload_n 0, 1) := by decide +kernel
theorem dX8_baseOf_37 : decode cX8_baseOf 37 = .ok (.getfield 22, 3) := by decide +kernel
theorem dX8_baseOf_40 : decode cX8_baseOf 40 = .ok (.iconst 4, 1) := by decide +kernel
theorem dX8_baseOf_41 : decode cX8_baseOf 41 = .ok (.iload 4, 2) := by decide +kernel
theorem dX8_baseOf_43 : decode cX8_baseOf 43 = .ok (.imul, 1) := by decide +kernel
theorem dX8_baseOf_44 : decode cX8_baseOf 44 = .ok (.iconst 2, 1) := by decide +kernel
theorem dX8_baseOf_45 : decode cX8_baseOf 45 = .ok (.iadd, 1) := by decide +kernel
theorem dX8_baseOf_46 : decode cX8_baseOf 46 = .ok (.iaload, 1) := by decide +kernel
theorem dX8_baseOf_47 : decode cX8_baseOf 47 = .ok (.iload_n 2, 1) := by decide +kernel
theorem dX8_baseOf_48 : decode cX8_baseOf 48 = .ok (.iload_n 3, 1) := by decide +kernel
theorem dX8_baseOf_49 : decode cX8_baseOf 49 = .ok (.invokestatic 209, 3) := by decide +kernel
theorem dX8_baseOf_52 : decode cX8_baseOf 52 = .ok (.ifCond .eq 15, 3) := by decide +kernel
theorem dX8_baseOf_55 : decode cX8_baseOf 55 = .ok (.aload_n 0, 1) := by decide +kernel
theorem dX8_baseOf_56 : decode cX8_baseOf 56 = .ok (.getfield 22, 3) := by decide +kernel
theorem dX8_baseOf_59 : decode cX8_baseOf 59 = .ok (.iconst 4, 1) := by decide +kernel
theorem dX8_baseOf_60 : decode cX8_baseOf 60 = .ok (.iload 4, 2) := by decide +kernel
theorem dX8_baseOf_62 : decode cX8_baseOf 62 = .ok (.imul, 1) := by decide +kernel
theorem dX8_baseOf_63 : decode cX8_baseOf 63 = .ok (.iconst 3, 1) := by decide +kernel
theorem dX8_baseOf_64 : decode cX8_baseOf 64 = .ok (.iadd, 1) := by decide +kernel
theorem dX8_baseOf_65 : decode cX8_baseOf 65 = .ok (.iaload, 1) := by decide +kernel
theorem dX8_baseOf_66 : decode cX8_baseOf 66 = .ok (.ireturn, 1) := by decide +kernel
theorem dX8_baseOf_67 : decode cX8_baseOf 67 = .ok (.iinc 4 1, 3) := by decide +kernel
theorem dX8_baseOf_70 : decode cX8_baseOf 70 = .ok (.goto (-67), 3) := by decide +kernel
theorem dX8_baseOf_73 : decode cX8_baseOf 73 = .ok (.bipush (-2), 2) := by decide +kernel
theorem dX8_baseOf_75 : decode cX8_baseOf 75 = .ok (.ireturn, 1) := by decide +kernel
theorem dX8_base_0 : decode cX8_base 0 = .ok (.aload_n 0, 1) := by decide +kernel
theorem dX8_base_1 : decode cX8_base 1 = .ok (.iconst 0, 1) := by decide +kernel
theorem dX8_base_2 : decode cX8_base 2 = .ok (.putfield 112, 3) := by decide +kernel
theorem dX8_base_5 : decode cX8_base 5 = .ok (.aload_n 0, 1) := by decide +kernel
theorem dX8_base_6 : decode cX8_base 6 = .ok (.iload_n 1, 1) := by decide +kernel
theorem dX8_base_7 : decode cX8_base 7 = .ok (.invokevirtual 315, 3) := by decide +kernel
theorem dX8_base_10 : decode cX8_base 10 = .ok (.ifCond .eq 34, 3) := by decide +kernel
theorem dX8_base_13 : decode cX8_base 13 = .ok (.aload_n 0, 1) := by decide +kernel
theorem dX8_base_14 : decode cX8_base 14 = .ok (.iload_n 2, 1) := by decide +kernel
theorem dX8_base_15 : decode cX8_base 15 = .ok (.invokevirtual 305, 3) := by decide +kernel
theorem dX8_base_18 : decode cX8_base 18 = .ok (.ifCond .eq 26, 3) := by decide +kernel
theorem dX8_base_21 : decode cX8_base 21 = .ok (.aload_n 0, 1) := by decide +kernel
theorem dX8_base_22 : decode cX8_base 22 = .ok (.iload_n 3, 1) := by decide +kernel
theorem dX8_base_23 : decode cX8_base 23 = .ok (.invokevirtual 305, 3) := by decide +kernel
theorem dX8_base_26 : decode cX8_base 26 = .ok (.ifCond .eq 18, 3) := by decide +kernel
theorem dX8_base_29 : decode cX8_base 29 = .ok (.iload_n 2, 1) := by decide +kernel
theorem dX8_base_30 : decode cX8_base 30 = .ok (.iload_n 3, 1) := by decide +kernel
theorem dX8_base_31 : decode cX8_base 31 = .ok (.if_icmp .eq 13, 3) := by decide +kernel
theorem dX8_base_34 : decode cX8_base 34 = .ok (.aload_n 0, 1) := by decide +kernel
theorem dX8_base_35 : decode cX8_base 35 = .ok (.iload_n 1, 1) := by decide +kernel
theorem dX8_base_36 : decode cX8_base 36 = .ok (.iload_n 2, 1) := by decide +kernel
theorem dX8_base_37 : decode cX8_base 37 = .ok (.iload_n 3, 1) := by decide +kernel
theorem dX8_base_38 : decode cX8_base 38 = .ok (.invokevirtual 233, 3) := by decide +kernel
theorem dX8_base_41 : decode cX8_base 41 = .ok (.goto 4, 3) := by decide +kernel
theorem dX8_base_44 : decode cX8_base 44 = .ok (.iconst (-1), 1) := by decide +kernel
theorem dX8_base_45 : decode cX8_base 45 = .ok (.ireturn, 1) := by decide +kernel
theorem dX8_carrierOf_0 : decode cX8_carrierOf 0 = .ok (.aload_n 0, 1) := by decide +kernel
theorem dX8_carrierOf_1 : decode cX8_carrierOf 1 = .ok (.getfield 37, 3) := by decide +kernel
theorem dX8_carrierOf_4 : decode cX8_carrierOf 4 = .ok (.iconst 0, 1) := by decide +kernel
theorem dX8_carrierOf_5 : decode cX8_carrierOf 5 = .ok (.bipush 8, 2) := by decide +kernel
theorem dX8_carrierOf_7 : decode cX8_carrierOf 7 = .ok (.iload_n 1, 1) := by decide +kernel
theorem dX8_carrierOf_8 : decode cX8_carrierOf 8 = .ok (.imul, 1) := by decide +kernel
theorem dX8_carrierOf_9 : decode cX8_carrierOf 9 = .ok (.iadd, 1) := by decide +kernel
theorem dX8_carrierOf_10 : decode cX8_carrierOf 10 = .ok (.iload_n 2, 1) := by decide +kernel
theorem dX8_carrierOf_11 : decode cX8_carrierOf 11 = .ok (.iadd, 1) := by decide +kernel
theorem dX8_carrierOf_12 : decode cX8_carrierOf 12 = .ok (.iaload, 1) := by decide +kernel
theorem dX8_carrierOf_13 : decode cX8_carrierOf 13 = .ok (.ireturn, 1) := by decide +kernel
theorem dX8_isFlown_0 : decode cX8_isFlown 0 = .ok (.aload_n 0, 1) := by decide +kernel
theorem dX8_isFlown_1 : decode cX8_isFlown 1 = .ok (.getfield 37, 3) := by decide +kernel
theorem dX8_isFlown_4 : decode cX8_isFlown 4 = .ok (.bipush 64, 2) := by decide +kernel
theorem dX8_isFlown_6 : decode cX8_isFlown 6 = .ok (.bipush 8, 2) := by decide +kernel
theorem dX8_isFlown_8 : decode cX8_isFlown 8 = .ok (.iload_n 1, 1) := by decide +kernel
theorem dX8_isFlown_9 : decode cX8_isFlown 9 = .ok (.imul, 1) := by decide +kernel
theorem dX8_isFlown_10 : decode cX8_isFlown 10 = .ok (.iadd, 1) := by decide +kernel
theorem dX8_isFlown_11 : decode cX8_isFlown 11 = .ok (.iload_n 2, 1) := by decide +kernel
theorem dX8_isFlown_12 : decode cX8_isFlown 12 = .ok (.iadd, 1) := by decide +kernel
theorem dX8_isFlown_13 : decode cX8_isFlown 13 = .ok (.iaload, 1) := by decide +kernel
theorem dX8_isFlown_14 : decode cX8_isFlown 14 = .ok (.iconst 1, 1) := by decide +kernel
theorem dX8_isFlown_15 : decode cX8_isFlown 15 = .ok (.if_icmp .ne 7, 3) := by decide +kernel
theorem dX8_isFlown_18 : decode cX8_isFlown 18 = .ok (.iconst 1, 1) := by decide +kernel
theorem dX8_isFlown_19 : decode cX8_isFlown 19 = .ok (.goto 4, 3) := by decide +kernel
theorem dX8_isFlown_22 : decode cX8_isFlown 22 = .ok (.iconst 0, 1) := by decide +kernel
theorem dX8_isFlown_23 : decode cX8_isFlown 23 = .ok (.ireturn, 1) := by decide +kernel
theorem dX8_isRefunded_0 : decode cX8_isRefunded 0 = .ok (.aload_n 0, 1) := by decide +kernel
theorem dX8_isRefunded_1 : decode cX8_isRefunded 1 = .ok (.getfield 37, 3) := by decide +kernel
theorem dX8_isRefunded_4 : decode cX8_isRefunded 4 = .ok (.sipush 234, 3) := by decide +kernel
theorem dX8_isRefunded_7 : decode cX8_isRefunded 7 = .ok (.iload_n 1, 1) := by decide +kernel
theorem dX8_isRefunded_8 : decode cX8_isRefunded 8 = .ok (.iadd, 1) := by decide +kernel
theorem dX8_isRefunded_9 : decode cX8_isRefunded 9 = .ok (.iaload, 1) := by decide +kernel
theorem dX8_isRefunded_10 : decode cX8_isRefunded 10 = .ok (.iconst 1, 1) := by decide +kernel
theorem dX8_isRefunded_11 : decode cX8_isRefunded 11 = .ok (.if_icmp .ne 7, 3) := by decide +kernel
theorem dX8_isRefunded_14 : decode cX8_isRefunded 14 = .ok (.iconst 1, 1) := by decide +kernel
theorem dX8_isRefunded_15 : decode cX8_isRefunded 15 = .ok (.goto 4, 3) := by decide +kernel
theorem dX8_isRefunded_18 : decode cX8_isRefunded 18 = .ok (.iconst 0, 1) := by decide +kernel
theorem dX8_isRefunded_19 : decode cX8_isRefunded 19 = .ok (.ireturn, 1) := by decide +kernel
theorem dX8_couponMiles_0 : decode cX8_couponMiles 0 = .ok (.aload_n 0, 1) := by decide +kernel
theorem dX8_couponMiles_1 : decode cX8_couponMiles 1 = .ok (.aload_n 0, 1) := by decide +kernel
theorem dX8_couponMiles_2 : decode cX8_couponMiles 2 = .ok (.getfield 28, 3) := by decide +kernel
theorem dX8_couponMiles_5 : decode cX8_couponMiles 5 = .ok (.bipush 8, 2) := by decide +kernel
theorem dX8_couponMiles_7 : decode cX8_couponMiles 7 = .ok (.iload_n 1, 1) := by decide +kernel
theorem dX8_couponMiles_8 : decode cX8_couponMiles 8 = .ok (.imul, 1) := by decide +kernel
theorem dX8_couponMiles_9 : decode cX8_couponMiles 9 = .ok (.iload_n 2, 1) := by decide +kernel
theorem dX8_couponMiles_10 : decode cX8_couponMiles 10 = .ok (.iadd, 1) := by decide +kernel
theorem dX8_couponMiles_11 : decode cX8_couponMiles 11 = .ok (.iaload, 1) := by decide +kernel
theorem dX8_couponMiles_12 : decode cX8_couponMiles 12 = .ok (.aload_n 0, 1) := by decide +kernel
theorem dX8_couponMiles_13 : decode cX8_couponMiles 13 = .ok (.getfield 31, 3) := by decide +kernel
theorem dX8_couponMiles_16 : decode cX8_couponMiles 16 = .ok (.bipush 8, 2) := by decide +kernel
theorem dX8_couponMiles_18 : decode cX8_couponMiles 18 = .ok (.iload_n 1, 1) := by decide +kernel
theorem dX8_couponMiles_19 : decode cX8_couponMiles 19 = .ok (.imul, 1) := by decide +kernel
theorem dX8_couponMiles_20 : decode cX8_couponMiles 20 = .ok (.iload_n 2, 1) := by decide +kernel
theorem dX8_couponMiles_21 : decode cX8_couponMiles 21 = .ok (.iadd, 1) := by decide +kernel
theorem dX8_couponMiles_22 : decode cX8_couponMiles 22 = .ok (.iaload, 1) := by decide +kernel
theorem dX8_couponMiles_23 : decode cX8_couponMiles 23 = .ok (.invokevirtual 308, 3) := by decide +kernel
theorem dX8_couponMiles_26 : decode cX8_couponMiles 26 = .ok (.ireturn, 1) := by decide +kernel
theorem dX8_factorOf_0 : decode cX8_factorOf 0 = .ok (.aload_n 0, 1) := by decide +kernel
theorem dX8_factorOf_1 : decode cX8_factorOf 1 = .ok (.iload_n 1, 1) := by decide +kernel
theorem dX8_factorOf_2 : decode cX8_factorOf 2 = .ok (.iload_n 2, 1) := by decide +kernel
theorem dX8_factorOf_3 : decode cX8_factorOf 3 = .ok (.invokevirtual 318, 3) := by decide +kernel
theorem dX8_factorOf_6 : decode cX8_factorOf 6 = .ok (.istore 4, 2) := by decide +kernel
theorem dX8_factorOf_8 : decode cX8_factorOf 8 = .ok (.iload_n 3, 1) := by decide +kernel
theorem dX8_factorOf_9 : decode cX8_factorOf 9 = .ok (.ifCond .ne 15, 3) := by decide +kernel
theorem dX8_factorOf_12 : decode cX8_factorOf 12 = .ok (.iload 4, 2) := by decide +kernel
theorem dX8_factorOf_14 : decode cX8_factorOf 14 = .ok (.i2l, 1) := by decide +kernel
theorem dX8_factorOf_15 : decode cX8_factorOf 15 = .ok (.aload_n 0, 1) := by decide +kernel
theorem dX8_factorOf_16 : decode cX8_factorOf 16 = .ok (.iload 4, 2) := by decide +kernel
theorem dX8_factorOf_18 : decode cX8_factorOf 18 = .ok (.invokevirtual 312, 3) := by decide +kernel
theorem dX8_factorOf_21 : decode cX8_factorOf 21 = .ok (.i2l, 1) := by decide +kernel
theorem dX8_factorOf_22 : decode cX8_factorOf 22 = .ok (.lmul, 1) := by decide +kernel
theorem dX8_factorOf_23 : decode cX8_factorOf 23 = .ok (.lreturn, 1) := by decide +kernel
theorem dX8_factorOf_24 : decode cX8_factorOf 24 = .ok (.aload_n 0, 1) := by decide +kernel
theorem dX8_factorOf_25 : decode cX8_factorOf 25 = .ok (.aload_n 0, 1) := by decide +kernel
theorem dX8_factorOf_26 : decode cX8_factorOf 26 = .ok (.iload_n 1, 1) := by decide +kernel
theorem dX8_factorOf_27 : decode cX8_factorOf 27 = .ok (.iload_n 2, 1) := by decide +kernel
theorem dX8_factorOf_28 : decode cX8_factorOf 28 = .ok (.invokevirtual 321, 3) := by decide +kernel
theorem dX8_factorOf_31 : decode cX8_factorOf 31 = .ok (.aload_n 0, 1) := by decide +kernel
theorem dX8_factorOf_32 : decode cX8_factorOf 32 = .ok (.getfield 28, 3) := by decide +kernel
theorem dX8_factorOf_35 : decode cX8_factorOf 35 = .ok (.bipush 8, 2) := by decide +kernel
theorem dX8_factorOf_37 : decode cX8_factorOf 37 = .ok (.iload_n 1, 1) := by decide +kernel
theorem dX8_factorOf_38 : decode cX8_factorOf 38 = .ok (.imul, 1) := by decide +kernel
theorem dX8_factorOf_39 : decode cX8_factorOf 39 = .ok (.iload_n 2, 1) := by decide +kernel
theorem dX8_factorOf_40 : decode cX8_factorOf 40 = .ok (.iadd, 1) := by decide +kernel
theorem dX8_factorOf_41 : decode cX8_factorOf 41 = .ok (.iaload, 1) := by decide +kernel
theorem dX8_factorOf_42 : decode cX8_factorOf 42 = .ok (.aload_n 0, 1) := by decide +kernel
theorem dX8_factorOf_43 : decode cX8_factorOf 43 = .ok (.getfield 31, 3) := by decide +kernel
theorem dX8_factorOf_46 : decode cX8_factorOf 46 = .ok (.bipush 8, 2) := by decide +kernel
theorem dX8_factorOf_48 : decode cX8_factorOf 48 = .ok (.iload_n 1, 1) := by decide +kernel
theorem dX8_factorOf_49 : decode cX8_factorOf 49 = .ok (.imul, 1) := by decide +kernel
theorem dX8_factorOf_50 : decode cX8_factorOf 50 = .ok (.iload_n 2, 1) := by decide +kernel
theorem dX8_factorOf_51 : decode cX8_factorOf 51 = .ok (.iadd, 1) := by decide +kernel
theorem dX8_factorOf_52 : decode cX8_factorOf 52 = .ok (.iaload, 1) := by decide +kernel
theorem dX8_factorOf_53 : decode cX8_factorOf 53 = .ok (.invokevirtual 233, 3) := by decide +kernel
theorem dX8_factorOf_56 : decode cX8_factorOf 56 = .ok (.istore 5, 2) := by decide +kernel
theorem dX8_factorOf_58 : decode cX8_factorOf 58 = .ok (.iload 5, 2) := by decide +kernel
theorem dX8_factorOf_60 : decode cX8_factorOf 60 = .ok (.bipush (-2), 2) := by decide +kernel
theorem dX8_factorOf_62 : decode cX8_factorOf 62 = .ok (.if_icmp .ne 15, 3) := by decide +kernel
theorem dX8_factorOf_65 : decode cX8_factorOf 65 = .ok (.iload 4, 2) := by decide +kernel
theorem dX8_factorOf_67 : decode cX8_factorOf 67 = .ok (.i2l, 1) := by decide +kernel
theorem dX8_factorOf_68 : decode cX8_factorOf 68 = .ok (.aload_n 0, 1) := by decide +kernel
theorem dX8_factorOf_69 : decode cX8_factorOf 69 = .ok (.getfield 106, 3) := by decide +kernel
theorem dX8_factorOf_72 : decode cX8_factorOf 72 = .ok (.i2l, 1) := by decide +kernel
theorem dX8_factorOf_73 : decode cX8_factorOf 73 = .ok (.lmul, 1) := by decide +kernel
theorem dX8_factorOf_74 : decode cX8_factorOf 74 = .ok (.goto 6, 3) := by decide +kernel
theorem dX8_factorOf_77 : decode cX8_factorOf 77 = .ok (.iload 5, 2) := by decide +kernel
theorem dX8_factorOf_79 : decode cX8_factorOf 79 = .ok (.i2l, 1) := by decide +kernel
theorem dX8_factorOf_80 : decode cX8_factorOf 80 = .ok (.lreturn, 1) := by decide +kernel
theorem dX8_holding_0 : decode cX8_holding 0 = .ok (.iconst 0, 1) := by decide +kernel
theorem dX8_holding_1 : decode cX8_holding 1 = .ok (.istore 4, 2) := by decide +kernel
theorem dX8_holding_3 : decode cX8_holding 3 = .ok (.iload 4, 2) := by decide +kernel
theorem dX8_holding_5 : decode cX8_holding 5 = .ok (.aload_n 0, 1) := by decide +kernel
theorem dX8_holding_6 : decode cX8_holding 6 = .ok (.getfield 223, 3) := by decide +kernel
theorem dX8_holding_9 : decode cX8_holding 9 = .ok (.if_icmp .ge 29, 3) := by decide +kernel
theorem dX8_holding_12 : decode cX8_holding 12 = .ok (.iload 4, 2) := by decide +kernel
theorem dX8_holding_14 : decode cX8_holding 14 = .ok (.iload_n 3, 1) := by decide +kernel
theorem dX8_holding_15 : decode cX8_holding 15 = .ok (.if_icmp .eq 17, 3) := by decide +kernel
theorem dX8_holding_18 : decode cX8_holding 18 = .ok (.aload_n 0, 1) := by decide +kernel
theorem dX8_holding_19 : decode cX8_holding 19 = .ok (.iload 4, 2) := by decide +kernel
theorem dX8_holding_21 : decode cX8_holding 21 = .ok (.iload_n 1, 1) := by decide +kernel
theorem dX8_holding_22 : decode cX8_holding 22 = .ok (.iload_n 2, 1) := by decide +kernel
theorem dX8_holding_23 : decode cX8_holding 23 = .ok (.invokevirtual 324, 3) := by decide +kernel
theorem dX8_holding_26 : decode cX8_holding 26 = .ok (.ifCond .eq 6, 3) := by decide +kernel
theorem dX8_holding_29 : decode cX8_holding 29 = .ok (.iload 4, 2) := by decide +kernel
theorem dX8_holding_31 : decode cX8_holding 31 = .ok (.ireturn, 1) := by decide +kernel
theorem dX8_holding_32 : decode cX8_holding 32 = .ok (.iinc 4 1, 3) := by decide +kernel
theorem dX8_holding_35 : decode cX8_holding 35 = .ok (.goto (-32), 3) := by decide +kernel
theorem dX8_holding_38 : decode cX8_holding 38 = .ok (.bipush (-2), 2) := by decide +kernel
theorem dX8_holding_40 : decode cX8_holding 40 = .ok (.ireturn, 1) := by decide +kernel
theorem dX8_holds_0 : decode cX8_holds 0 = .ok (.bipush 8, 2) := by decide +kernel
theorem dX8_holds_2 : decode cX8_holds 2 = .ok (.iload_n 2, 1) := by decide +kernel
theorem dX8_holds_3 : decode cX8_holds 3 = .ok (.imul, 1) := by decide +kernel
theorem dX8_holds_4 : decode cX8_holds 4 = .ok (.iload_n 3, 1) := by decide +kernel
theorem dX8_holds_5 : decode cX8_holds 5 = .ok (.iadd, 1) := by decide +kernel
theorem dX8_holds_6 : decode cX8_holds 6 = .ok (.istore 4, 2) := by decide +kernel
theorem dX8_holds_8 : decode cX8_holds 8 = .ok (.aload_n 0, 1) := by decide +kernel
theorem dX8_holds_9 : decode cX8_holds 9 = .ok (.getfield 19, 3) := by decide +kernel
theorem dX8_holds_12 : decode cX8_holds 12 = .ok (.bipush 6, 2) := by decide +kernel
theorem dX8_holds_14 : decode cX8_holds 14 = .ok (.iload_n 1, 1) := by decide +kernel
theorem dX8_holds_15 : decode cX8_holds 15 = .ok (.imul, 1) := by decide +kernel
theorem dX8_holds_16 : decode cX8_holds 16 = .ok (.iaload, 1) := by decide +kernel
theorem dX8_holds_17 : decode cX8_holds 17 = .ok (.aload_n 0, 1) := by decide +kernel
theorem dX8_holds_18 : decode cX8_holds 18 = .ok (.iload_n 2, 1) := by decide +kernel
theorem dX8_holds_19 : decode cX8_holds 19 = .ok (.iload_n 3, 1) := by decide +kernel
theorem dX8_holds_20 : decode cX8_holds 20 = .ok (.invokevirtual 321, 3) := by decide +kernel
theorem dX8_holds_23 : decode cX8_holds 23 = .ok (.if_icmp .eq 5, 3) := by decide +kernel
theorem dX8_holds_26 : decode cX8_holds 26 = .ok (.iconst 0, 1) := by decide +kernel
theorem dX8_holds_27 : decode cX8_holds 27 = .ok (.ireturn, 1) := by decide +kernel
theorem dX8_holds_28 : decode cX8_holds 28 = .ok (.aload_n 0, 1) := by decide +kernel
theorem dX8_holds_29 : decode cX8_holds 29 = .ok (.getfield 19, 3) := by decide +kernel
theorem dX8_holds_32 : decode cX8_holds 32 = .ok (.bipush 6, 2) := by decide +kernel
theorem dX8_holds_34 : decode cX8_holds 34 = .ok (.iload_n 1, 1) := by decide +kernel
theorem dX8_holds_35 : decode cX8_holds 35 = .ok (.imul, 1) := by decide +kernel
theorem dX8_holds_36 : decode cX8_holds 36 = .ok (.iconst 1, 1) := by decide +kernel
theorem dX8_holds_37 : decode cX8_holds 37 = .ok (.iadd, 1) := by decide +kernel
theorem dX8_holds_38 : decode cX8_holds 38 = .ok (.iaload, 1) := by decide +kernel
theorem dX8_holds_39 : decode cX8_holds 39 = .ok (.bipush (-2), 2) := by decide +kernel
theorem dX8_holds_41 : decode cX8_holds 41 = .ok (.if_icmp .eq 47, 3) := by decide +kernel
theorem dX8_holds_44 : decode cX8_holds 44 = .ok (.aload_n 0, 1) := by decide +kernel
theorem dX8_holds_45 : decode cX8_holds 45 = .ok (.getfield 19, 3) := by decide +kernel
theorem dX8_holds_48 : decode cX8_holds 48 = .ok (.bipush 6, 2) := by decide +kernel
theorem dX8_holds_50 : decode cX8_holds 50 = .ok (.iload_n 1, 1) := by decide +kernel
theorem dX8_holds_51 : decode cX8_holds 51 = .ok (.imul, 1) := by decide +kernel
theorem dX8_holds_52 : decode cX8_holds 52 = .ok (.iconst 1, 1) := by decide +kernel
theorem dX8_holds_53 : decode cX8_holds 53 = .ok (.iadd, 1) := by decide +kernel
theorem dX8_holds_54 : decode cX8_holds 54 = .ok (.iaload, 1) := by decide +kernel
theorem dX8_holds_55 : decode cX8_holds 55 = .ok (.aload_n 0, 1) := by decide +kernel
theorem dX8_holds_56 : decode cX8_holds 56 = .ok (.getfield 19, 3) := by decide +kernel
theorem dX8_holds_59 : decode cX8_holds 59 = .ok (.bipush 6, 2) := by decide +kernel
theorem dX8_holds_61 : decode cX8_holds 61 = .ok (.iload_n 1, 1) := by decide +kernel
theorem dX8_holds_62 : decode cX8_holds 62 = .ok (.imul, 1) := by decide +kernel
theorem dX8_holds_63 : decode cX8_holds 63 = .ok (.iconst 2, 1) := by decide +kernel
theorem dX8_holds_64 : decode cX8_holds 64 = .ok (.iadd, 1) := by decide +kernel
theorem dX8_holds_65 : decode cX8_holds 65 = .ok (.iaload, 1) := by decide +kernel
theorem dX8_holds_66 : decode cX8_holds 66 = .ok (.aload_n 0, 1) := by decide +kernel
theorem dX8_holds_67 : decode cX8_holds 67 = .ok (.getfield 28, 3) := by decide +kernel
theorem dX8_holds_70 : decode cX8_holds 70 = .ok (.iload 4, 2) := by decide +kernel
theorem dX8_holds_72 : decode cX8_holds 72 = .ok (.iaload, 1) := by decide +kernel
theorem dX8_holds_73 : decode cX8_holds 73 = .ok (.aload_n 0, 1) := by decide +kernel
theorem dX8_holds_74 : decode cX8_holds 74 = .ok (.getfield 31, 3) := by decide +kernel
theorem dX8_holds_77 : decode cX8_holds 77 = .ok (.iload 4, 2) := by decide +kernel
theorem dX8_holds_79 : decode cX8_holds 79 = .ok (.iaload, 1) := by decide +kernel
theorem dX8_holds_80 : decode cX8_holds 80 = .ok (.invokestatic 209, 3) := by decide +kernel
theorem dX8_holds_83 : decode cX8_holds 83 = .ok (.ifCond .ne 5, 3) := by decide +kernel
theorem dX8_holds_86 : decode cX8_holds 86 = .ok (.iconst 0, 1) := by decide +kernel
theorem dX8_holds_87 : decode cX8_holds 87 = .ok (.ireturn, 1) := by decide +kernel
theorem dX8_holds_88 : decode cX8_holds 88 = .ok (.aload_n 0, 1) := by decide +kernel
theorem dX8_holds_89 : decode cX8_holds 89 = .ok (.getfield 19, 3) := by decide +kernel
theorem dX8_holds_92 : decode cX8_holds 92 = .ok (.bipush 6, 2) := by decide +kernel
theorem dX8_holds_94 : decode cX8_holds 94 = .ok (.iload_n 1, 1) := by decide +kernel
theorem dX8_holds_95 : decode cX8_holds 95 = .ok (.imul, 1) := by decide +kernel
theorem dX8_holds_96 : decode cX8_holds 96 = .ok (.iconst 5, 1) := by decide +kernel
theorem dX8_holds_97 : decode cX8_holds 97 = .ok (.iadd, 1) := by decide +kernel
theorem dX8_holds_98 : decode cX8_holds 98 = .ok (.iaload, 1) := by decide +kernel
theorem dX8_holds_99 : decode cX8_holds 99 = .ok (.bipush (-2), 2) := by decide +kernel
theorem dX8_holds_101 : decode cX8_holds 101 = .ok (.if_icmp .ne 5, 3) := by decide +kernel
theorem dX8_holds_104 : decode cX8_holds 104 = .ok (.iconst 1, 1) := by decide +kernel
theorem dX8_holds_105 : decode cX8_holds 105 = .ok (.ireturn, 1) := by decide +kernel
theorem dX8_holds_106 : decode cX8_holds 106 = .ok (.iconst 0, 1) := by decide +kernel
theorem dX8_holds_107 : decode cX8_holds 107 = .ok (.istore 5, 2) := by decide +kernel
theorem dX8_holds_109 : decode cX8_holds 109 = .ok (.iload 5, 2) := by decide +kernel
theorem dX8_holds_111 : decode cX8_holds 111 = .ok (.aload_n 0, 1) := by decide +kernel
theorem dX8_holds_112 : decode cX8_holds 112 = .ok (.iload_n 2, 1) := by decide +kernel
theorem dX8_holds_113 : decode cX8_holds 113 = .ok (.invokevirtual 301, 3) := by decide +kernel
theorem dX8_holds_116 : decode cX8_holds 116 = .ok (.if_icmp .ge 38, 3) := by decide +kernel
theorem dX8_holds_119 : decode cX8_holds 119 = .ok (.iload 5, 2) := by decide +kernel
theorem dX8_holds_121 : decode cX8_holds 121 = .ok (.iload_n 3, 1) := by decide +kernel
theorem dX8_holds_122 : decode cX8_holds 122 = .ok (.if_icmp .eq 26, 3) := by decide +kernel
theorem dX8_holds_125 : decode cX8_holds 125 = .ok (.aload_n 0, 1) := by decide +kernel
theorem dX8_holds_126 : decode cX8_holds 126 = .ok (.iload_n 2, 1) := by decide +kernel
theorem dX8_holds_127 : decode cX8_holds 127 = .ok (.iload 5, 2) := by decide +kernel
theorem dX8_holds_129 : decode cX8_holds 129 = .ok (.invokevirtual 321, 3) := by decide +kernel
theorem dX8_holds_132 : decode cX8_holds 132 = .ok (.aload_n 0, 1) := by decide +kernel
theorem dX8_holds_133 : decode cX8_holds 133 = .ok (.getfield 19, 3) := by decide +kernel
theorem dX8_holds_136 : decode cX8_holds 136 = .ok (.bipush 6, 2) := by decide +kernel
theorem dX8_holds_138 : decode cX8_holds 138 = .ok (.iload_n 1, 1) := by decide +kernel
theorem dX8_holds_139 : decode cX8_holds 139 = .ok (.imul, 1) := by decide +kernel
theorem dX8_holds_140 : decode cX8_holds 140 = .ok (.iconst 5, 1) := by decide +kernel
theorem dX8_holds_141 : decode cX8_holds 141 = .ok (.iadd, 1) := by decide +kernel
theorem dX8_holds_142 : decode cX8_holds 142 = .ok (.iaload, 1) := by decide +kernel
theorem dX8_holds_143 : decode cX8_holds 143 = .ok (.if_icmp .ne 5, 3) := by decide +kernel
theorem dX8_holds_146 : decode cX8_holds 146 = .ok (.iconst 1, 1) := by decide +kernel
theorem dX8_holds_147 : decode cX8_holds 147 = .ok (.ireturn, 1) := by decide +kernel
theorem dX8_holds_148 : decode cX8_holds 148 = .ok (.iinc 5 1, 3) := by decide +kernel
theorem dX8_holds_151 : decode cX8_holds 151 = .ok (.goto (-42), 3) := by decide +kernel
theorem dX8_holds_154 : decode cX8_holds 154 = .ok (.iconst 0, 1) := by decide +kernel
theorem dX8_holds_155 : decode cX8_holds 155 = .ok (.ireturn, 1) := by decide +kernel
theorem dX8_fare_0 : decode cX8_fare 0 = .ok (.aload_n 0, 1) := by decide +kernel
theorem dX8_fare_1 : decode cX8_fare 1 = .ok (.getfield 25, 3) := by decide +kernel
theorem dX8_fare_4 : decode cX8_fare 4 = .ok (.iconst 4, 1) := by decide +kernel
theorem dX8_fare_5 : decode cX8_fare 5 = .ok (.iload_n 1, 1) := by decide +kernel
theorem dX8_fare_6 : decode cX8_fare 6 = .ok (.imul, 1) := by decide +kernel
theorem dX8_fare_7 : decode cX8_fare 7 = .ok (.iaload, 1) := by decide +kernel
theorem dX8_fare_8 : decode cX8_fare 8 = .ok (.i2l, 1) := by decide +kernel
theorem dX8_fare_9 : decode cX8_fare 9 = .ok (.lreturn, 1) := by decide +kernel
theorem dX8_isFirst_0 : decode cX8_isFirst 0 = .ok (.iload_n 0, 1) := by decide +kernel
theorem dX8_isFirst_1 : decode cX8_isFirst 1 = .ok (.iconst 1, 1) := by decide +kernel
theorem dX8_isFirst_2 : decode cX8_isFirst 2 = .ok (.if_icmp .eq 8, 3) := by decide +kernel
theorem dX8_isFirst_5 : decode cX8_isFirst 5 = .ok (.iload_n 0, 1) := by decide +kernel
theorem dX8_isFirst_6 : decode cX8_isFirst 6 = .ok (.iconst 2, 1) := by decide +kernel
theorem dX8_isFirst_7 : decode cX8_isFirst 7 = .ok (.if_icmp .ne 7, 3) := by decide +kernel
theorem dX8_isFirst_10 : decode cX8_isFirst 10 = .ok (.iconst 1, 1) := by decide +kernel
theorem dX8_isFirst_11 : decode cX8_isFirst 11 = .ok (.goto 4, 3) := by decide +kernel
theorem dX8_isFirst_14 : decode cX8_isFirst 14 = .ok (.iconst 0, 1) := by decide +kernel
theorem dX8_isFirst_15 : decode cX8_isFirst 15 = .ok (.ireturn, 1) := by decide +kernel
theorem dX8_prorates_0 : decode cX8_prorates 0 = .ok (.aload_n 0, 1) := by decide +kernel
theorem dX8_prorates_1 : decode cX8_prorates 1 = .ok (.iload_n 1, 1) := by decide +kernel
theorem dX8_prorates_2 : decode cX8_prorates 2 = .ok (.invokevirtual 301, 3) := by decide +kernel
theorem dX8_prorates_5 : decode cX8_prorates 5 = .ok (.istore 5, 2) := by decide +kernel
theorem dX8_prorates_7 : decode cX8_prorates 7 = .ok (.aload_n 0, 1) := by decide +kernel
theorem dX8_prorates_8 : decode cX8_prorates 8 = .ok (.iload_n 1, 1) := by decide +kernel
theorem dX8_prorates_9 : decode cX8_prorates 9 = .ok (.invokevirtual 328, 3) := by decide +kernel
theorem dX8_prorates_12 : decode cX8_prorates 12 = .ok (.lstore 6, 2) := by decide +kernel
theorem dX8_prorates_14 : decode cX8_prorates 14 = .ok (.aload_n 0, 1) := by decide +kernel
theorem dX8_prorates_15 : decode cX8_prorates 15 = .ok (.iconst 0, 1) := by decide +kernel
theorem dX8_prorates_16 : decode cX8_prorates 16 = .ok (.putfield 332, 3) := by decide +kernel
theorem dX8_prorates_19 : decode cX8_prorates 19 = .ok (.aload_n 0, 1) := by decide +kernel
theorem dX8_prorates_20 : decode cX8_prorates 20 = .ok (.iconst 0, 1) := by decide +kernel
theorem dX8_prorates_21 : decode cX8_prorates 21 = .ok (.putfield 335, 3) := by decide +kernel
theorem dX8_prorates_24 : decode cX8_prorates 24 = .ok (.aload_n 0, 1) := by decide +kernel
theorem dX8_prorates_25 : decode cX8_prorates 25 = .ok (.lconst 1, 1) := by decide +kernel
theorem dX8_prorates_26 : decode cX8_prorates 26 = .ok (.putfield 338, 3) := by decide +kernel
theorem dX8_prorates_29 : decode cX8_prorates 29 = .ok (.iconst 0, 1) := by decide +kernel
theorem dX8_prorates_30 : decode cX8_prorates 30 = .ok (.istore 8, 2) := by decide +kernel
theorem dX8_prorates_32 : decode cX8_prorates 32 = .ok (.iload 8, 2) := by decide +kernel
theorem dX8_prorates_34 : decode cX8_prorates 34 = .ok (.iload 5, 2) := by decide +kernel
theorem dX8_prorates_36 : decode cX8_prorates 36 = .ok (.if_icmp .ge 257, 3) := by decide +kernel
theorem dX8_prorates_39 : decode cX8_prorates 39 = .ok (.iload 4, 2) := by decide +kernel
theorem dX8_prorates_41 : decode cX8_prorates 41 = .ok (.ifCond .eq 8, 3) := by decide +kernel
theorem dX8_prorates_44 : decode cX8_prorates 44 = .ok (.bipush (-2), 2) := by decide +kernel
theorem dX8_prorates_46 : decode cX8_prorates 46 = .ok (.goto 11, 3) := by decide +kernel
theorem dX8_prorates_49 : decode cX8_prorates 49 = .ok (.aload_n 0, 1) := by decide +kernel
theorem dX8_prorates_50 : decode cX8_prorates 50 = .ok (.iload_n 1, 1) := by decide +kernel
theorem dX8_prorates_51 : decode cX8_prorates 51 = .ok (.iload 8, 2) := by decide +kernel
theorem dX8_prorates_53 : decode cX8_prorates 53 = .ok (.iload_n 3, 1) := by decide +kernel
theorem dX8_prorates_54 : decode cX8_prorates 54 = .ok (.invokevirtual 342, 3) := by decide +kernel
theorem dX8_prorates_57 : decode cX8_prorates 57 = .ok (.istore 9, 2) := by decide +kernel
theorem dX8_prorates_59 : decode cX8_prorates 59 = .ok (.iload 4, 2) := by decide +kernel
theorem dX8_prorates_61 : decode cX8_prorates 61 = .ok (.ifCond .ne 17, 3) := by decide +kernel
theorem dX8_prorates_64 : decode cX8_prorates 64 = .ok (.aload_n 0, 1) := by decide +kernel
theorem dX8_prorates_65 : decode cX8_prorates 65 = .ok (.iload_n 1, 1) := by decide +kernel
theorem dX8_prorates_66 : decode cX8_prorates 66 = .ok (.iload 8, 2) := by decide +kernel
theorem dX8_prorates_68 : decode cX8_prorates 68 = .ok (.invokevirtual 345, 3) := by decide +kernel
theorem dX8_prorates_71 : decode cX8_prorates 71 = .ok (.ifCond .eq 7, 3) := by decide +kernel
theorem dX8_prorates_74 : decode cX8_prorates 74 = .ok (.iconst 1, 1) := by decide +kernel
theorem dX8_prorates_75 : decode cX8_prorates 75 = .ok (.goto 4, 3) := by decide +kernel
theorem dX8_prorates_78 : decode cX8_prorates 78 = .ok (.iconst 0, 1) := by decide +kernel
theorem dX8_prorates_79 : decode cX8_prorates 79 = .ok (.istore 10, 2) := by decide +kernel
theorem dX8_prorates_81 : decode cX8_prorates 81 = .ok (.aload_n 0, 1) := by decide +kernel
theorem dX8_prorates_82 : decode cX8_prorates 82 = .ok (.getfield 78, 3) := by decide +kernel
theorem dX8_prorates_85 : decode cX8_prorates 85 = .ok (.iload 8, 2) := by decide +kernel
theorem dX8_prorates_87 : decode cX8_prorates 87 = .ok (.iload 9, 2) := by decide +kernel
theorem dX8_prorates_89 : decode cX8_prorates 89 = .ok (.bipush (-2), 2) := by decide +kernel
theorem dX8_prorates_91 : decode cX8_prorates 91 = .ok (.if_icmp .ne 7, 3) := by decide +kernel
theorem dX8_prorates_94 : decode cX8_prorates 94 = .ok (.iconst 0, 1) := by decide +kernel
theorem dX8_prorates_95 : decode cX8_prorates 95 = .ok (.goto 15, 3) := by decide +kernel
theorem dX8_prorates_98 : decode cX8_prorates 98 = .ok (.aload_n 0, 1) := by decide +kernel
theorem dX8_prorates_99 : decode cX8_prorates 99 = .ok (.getfield 19, 3) := by decide +kernel
theorem dX8_prorates_102 : decode cX8_prorates 102 = .ok (.bipush 6, 2) := by decide +kernel
theorem dX8_prorates_104 : decode cX8_prorates 104 = .ok (.iload 9, 2) := by decide +kernel
theorem dX8_prorates_106 : decode cX8_prorates 106 = .ok (.imul, 1) := by decide +kernel
theorem dX8_prorates_107 : decode cX8_prorates 107 = .ok (.iconst 3, 1) := by decide +kernel
theorem dX8_prorates_108 : decode cX8_prorates 108 = .ok (.iadd, 1) := by decide +kernel
theorem dX8_prorates_109 : decode cX8_prorates 109 = .ok (.iaload, 1) := by decide +kernel
theorem dX8_prorates_110 : decode cX8_prorates 110 = .ok (.iastore, 1) := by decide +kernel
theorem dX8_prorates_111 : decode cX8_prorates 111 = .ok (.aload_n 0, 1) := by decide +kernel
theorem dX8_prorates_112 : decode cX8_prorates 112 = .ok (.getfield 75, 3) := by decide +kernel
theorem dX8_prorates_115 : decode cX8_prorates 115 = .ok (.iload 8, 2) := by decide +kernel
theorem dX8_prorates_117 : decode cX8_prorates 117 = .ok (.iload 9, 2) := by decide +kernel
theorem dX8_prorates_119 : decode cX8_prorates 119 = .ok (.bipush (-2), 2) := by decide +kernel
theorem dX8_prorates_121 : decode cX8_prorates 121 = .ok (.if_icmp .ne 7, 3) := by decide +kernel
theorem dX8_prorates_124 : decode cX8_prorates 124 = .ok (.lconst 0, 1) := by decide +kernel
theorem dX8_prorates_125 : decode cX8_prorates 125 = .ok (.goto 53, 3) := by decide +kernel
theorem dX8_prorates_128 : decode cX8_prorates 128 = .ok (.aload_n 0, 1) := by decide +kernel
theorem dX8_prorates_129 : decode cX8_prorates 129 = .ok (.getfield 78, 3) := by decide +kernel
theorem dX8_prorates_132 : decode cX8_prorates 132 = .ok (.iload 8, 2) := by decide +kernel
theorem dX8_prorates_134 : decode cX8_prorates 134 = .ok (.iaload, 1) := by decide +kernel
theorem dX8_prorates_135 : decode cX8_prorates 135 = .ok (.iconst 2, 1) := by decide +kernel
theorem dX8_prorates_136 : decode cX8_prorates 136 = .ok (.if_icmp .ne 29, 3) := by decide +kernel
theorem dX8_prorates_139 : decode cX8_prorates 139 = .ok (.aload_n 0, 1) := by decide +kernel
theorem dX8_prorates_140 : decode cX8_prorates 140 = .ok (.iload_n 1, 1) := by decide +kernel
theorem dX8_prorates_141 : decode cX8_prorates 141 = .ok (.invokevirtual 328, 3) := by decide +kernel
theorem dX8_prorates_144 : decode cX8_prorates 144 = .ok (.aload_n 0, 1) := by decide +kernel
theorem dX8_prorates_145 : decode cX8_prorates 145 = .ok (.getfield 19, 3) := by decide +kernel
theorem dX8_prorates_148 : decode cX8_prorates 148 = .ok (.bipush 6, 2) := by decide +kernel
theorem dX8_prorates_150 : decode cX8_prorates 150 = .ok (.iload 9, 2) := by decide +kernel
theorem dX8_prorates_152 : decode cX8_prorates 152 = .ok (.imul, 1) := by decide +kernel
theorem dX8_prorates_153 : decode cX8_prorates 153 = .ok (.iconst 4, 1) := by decide +kernel
theorem dX8_prorates_154 : decode cX8_prorates 154 = .ok (.iadd, 1) := by decide +kernel
theorem dX8_prorates_155 : decode cX8_prorates 155 = .ok (.iaload, 1) := by decide +kernel
theorem dX8_prorates_156 : decode cX8_prorates 156 = .ok (.i2l, 1) := by decide +kernel
theorem dX8_prorates_157 : decode cX8_prorates 157 = .ok (.lmul, 1) := by decide +kernel
theorem dX8_prorates_158 : decode cX8_prorates 158 = .ok (.ldc2_w 348, 3) := by decide +kernel
theorem dX8_prorates_161 : decode cX8_prorates 161 = .ok (.ldiv, 1) := by decide +kernel
theorem dX8_prorates_162 : decode cX8_prorates 162 = .ok (.goto 16, 3) := by decide +kernel
theorem dX8_prorates_165 : decode cX8_prorates 165 = .ok (.aload_n 0, 1) := by decide +kernel
theorem dX8_prorates_166 : decode cX8_prorates 166 = .ok (.getfield 19, 3) := by decide +kernel
theorem dX8_prorates_169 : decode cX8_prorates 169 = .ok (.bipush 6, 2) := by decide +kernel
theorem dX8_prorates_171 : decode cX8_prorates 171 = .ok (.iload 9, 2) := by decide +kernel
theorem dX8_prorates_173 : decode cX8_prorates 173 = .ok (.imul, 1) := by decide +kernel
theorem dX8_prorates_174 : decode cX8_prorates 174 = .ok (.iconst 4, 1) := by decide +kernel
theorem dX8_prorates_175 : decode cX8_prorates 175 = .ok (.iadd, 1) := by decide +kernel
theorem dX8_prorates_176 : decode cX8_prorates 176 = .ok (.iaload, 1) := by decide +kernel
theorem dX8_prorates_177 : decode cX8_prorates 177 = .ok (.i2l, 1) := by decide +kernel
theorem dX8_prorates_178 : decode cX8_prorates 178 = .ok (.lastore, 1) := by decide +kernel
theorem dX8_prorates_179 : decode cX8_prorates 179 = .ok (.aload_n 0, 1) := by decide +kernel
theorem dX8_prorates_180 : decode cX8_prorates 180 = .ok (.getfield 72, 3) := by decide +kernel
theorem dX8_prorates_183 : decode cX8_prorates 183 = .ok (.iload 8, 2) := by decide +kernel
theorem dX8_prorates_185 : decode cX8_prorates 185 = .ok (.aload_n 0, 1) := by decide +kernel
theorem dX8_prorates_186 : decode cX8_prorates 186 = .ok (.iload_n 1, 1) := by decide +kernel
theorem dX8_prorates_187 : decode cX8_prorates 187 = .ok (.iload 8, 2) := by decide +kernel
theorem dX8_prorates_189 : decode cX8_prorates 189 = .ok (.iload_n 2, 1) := by decide +kernel
theorem dX8_prorates_190 : decode cX8_prorates 190 = .ok (.invokevirtual 350, 3) := by decide +kernel
theorem dX8_prorates_193 : decode cX8_prorates 193 = .ok (.lastore, 1) := by decide +kernel
theorem dX8_prorates_194 : decode cX8_prorates 194 = .ok (.aload_n 0, 1) := by decide +kernel
theorem dX8_prorates_195 : decode cX8_prorates 195 = .ok (.getfield 65, 3) := by decide +kernel
theorem dX8_prorates_198 : decode cX8_prorates 198 = .ok (.iload 8, 2) := by decide +kernel
theorem dX8_prorates_200 : decode cX8_prorates 200 = .ok (.lconst 0, 1) := by decide +kernel
theorem dX8_prorates_201 : decode cX8_prorates 201 = .ok (.lastore, 1) := by decide +kernel
theorem dX8_prorates_202 : decode cX8_prorates 202 = .ok (.aload_n 0, 1) := by decide +kernel
theorem dX8_prorates_203 : decode cX8_prorates 203 = .ok (.getfield 69, 3) := by decide +kernel
theorem dX8_prorates_206 : decode cX8_prorates 206 = .ok (.iload 8, 2) := by decide +kernel
theorem dX8_prorates_208 : decode cX8_prorates 208 = .ok (.lconst 0, 1) := by decide +kernel
theorem dX8_prorates_209 : decode cX8_prorates 209 = .ok (.lastore, 1) := by decide +kernel
theorem dX8_prorates_210 : decode cX8_prorates 210 = .ok (.aload_n 0, 1) := by decide +kernel
theorem dX8_prorates_211 : decode cX8_prorates 211 = .ok (.getfield 81, 3) := by decide +kernel
theorem dX8_prorates_214 : decode cX8_prorates 214 = .ok (.iload 8, 2) := by decide +kernel
theorem dX8_prorates_216 : decode cX8_prorates 216 = .ok (.iconst 0, 1) := by decide +kernel
theorem dX8_prorates_217 : decode cX8_prorates 217 = .ok (.iastore, 1) := by decide +kernel
theorem dX8_prorates_218 : decode cX8_prorates 218 = .ok (.aload_n 0, 1) := by decide +kernel
theorem dX8_prorates_219 : decode cX8_prorates 219 = .ok (.getfield 84, 3) := by decide +kernel
theorem dX8_prorates_222 : decode cX8_prorates 222 = .ok (.iload 8, 2) := by decide +kernel
theorem dX8_prorates_224 : decode cX8_prorates 224 = .ok (.iload 10, 2) := by decide +kernel
theorem dX8_prorates_226 : decode cX8_prorates 226 = .ok (.ifCond .ne 7, 3) := by decide +kernel
theorem dX8_prorates_229 : decode cX8_prorates 229 = .ok (.iconst 1, 1) := by decide +kernel
theorem dX8_prorates_230 : decode cX8_prorates 230 = .ok (.goto 4, 3) := by decide +kernel
theorem dX8_prorates_233 : decode cX8_prorates 233 = .ok (.iconst 0, 1) := by decide +kernel
theorem dX8_prorates_234 : decode cX8_prorates 234 = .ok (.bastore, 1) := by decide +kernel
theorem dX8_prorates_235 : decode cX8_prorates 235 = .ok (.iload 10, 2) := by decide +kernel
theorem dX8_prorates_237 : decode cX8_prorates 237 = .ok (.ifCond .ne 6, 3) := by decide +kernel
theorem dX8_prorates_240 : decode cX8_prorates 240 = .ok (.goto 47, 3) := by decide +kernel
theorem dX8_prorates_243 : decode cX8_prorates 243 = .ok (.aload_n 0, 1) := by decide +kernel
theorem dX8_prorates_244 : decode cX8_prorates 244 = .ok (.getfield 65, 3) := by decide +kernel
theorem dX8_prorates_247 : decode cX8_prorates 247 = .ok (.iload 8, 2) := by decide +kernel
theorem dX8_prorates_249 : decode cX8_prorates 249 = .ok (.aload_n 0, 1) := by decide +kernel
theorem dX8_prorates_250 : decode cX8_prorates 250 = .ok (.getfield 37, 3) := by decide +kernel
theorem dX8_prorates_253 : decode cX8_prorates 253 = .ok (.sipush 128, 3) := by decide +kernel
theorem dX8_prorates_256 : decode cX8_prorates 256 = .ok (.bipush 8, 2) := by decide +kernel
theorem dX8_prorates_258 : decode cX8_prorates 258 = .ok (.iload_n 1, 1) := by decide +kernel
theorem dX8_prorates_259 : decode cX8_prorates 259 = .ok (.imul, 1) := by decide +kernel
theorem dX8_prorates_260 : decode cX8_prorates 260 = .ok (.iadd, 1) := by decide +kernel
theorem dX8_prorates_261 : decode cX8_prorates 261 = .ok (.iload 8, 2) := by decide +kernel
theorem dX8_prorates_263 : decode cX8_prorates 263 = .ok (.iadd, 1) := by decide +kernel
theorem dX8_prorates_264 : decode cX8_prorates 264 = .ok (.iaload, 1) := by decide +kernel
theorem dX8_prorates_265 : decode cX8_prorates 265 = .ok (.i2l, 1) := by decide +kernel
theorem dX8_prorates_266 : decode cX8_prorates 266 = .ok (.lastore, 1) := by decide +kernel
theorem dX8_prorates_267 : decode cX8_prorates 267 = .ok (.aload_n 0, 1) := by decide +kernel
theorem dX8_prorates_268 : decode cX8_prorates 268 = .ok (.getfield 81, 3) := by decide +kernel
theorem dX8_prorates_271 : decode cX8_prorates 271 = .ok (.iload 8, 2) := by decide +kernel
theorem dX8_prorates_273 : decode cX8_prorates 273 = .ok (.iconst 5, 1) := by decide +kernel
theorem dX8_prorates_274 : decode cX8_prorates 274 = .ok (.iastore, 1) := by decide +kernel
theorem dX8_prorates_275 : decode cX8_prorates 275 = .ok (.lload 6, 2) := by decide +kernel
theorem dX8_prorates_277 : decode cX8_prorates 277 = .ok (.aload_n 0, 1) := by decide +kernel
theorem dX8_prorates_278 : decode cX8_prorates 278 = .ok (.getfield 65, 3) := by decide +kernel
theorem dX8_prorates_281 : decode cX8_prorates 281 = .ok (.iload 8, 2) := by decide +kernel
theorem dX8_prorates_283 : decode cX8_prorates 283 = .ok (.laload, 1) := by decide +kernel
theorem dX8_prorates_284 : decode cX8_prorates 284 = .ok (.lsub, 1) := by decide +kernel
theorem dX8_prorates_285 : decode cX8_prorates 285 = .ok (.lstore 6, 2) := by decide +kernel
theorem dX8_prorates_287 : decode cX8_prorates 287 = .ok (.iinc 8 1, 3) := by decide +kernel
theorem dX8_prorates_290 : decode cX8_prorates 290 = .ok (.goto (-258), 3) := by decide +kernel
theorem dX8_prorates_293 : decode cX8_prorates 293 = .ok (.aload_n 0, 1) := by decide +kernel
theorem dX8_prorates_294 : decode cX8_prorates 294 = .ok (.lload 6, 2) := by decide +kernel
theorem dX8_prorates_296 : decode cX8_prorates 296 = .ok (.putfield 354, 3) := by decide +kernel
theorem dX8_prorates_299 : decode cX8_prorates 299 = .ok (.aload_n 0, 1) := by decide +kernel
theorem dX8_prorates_300 : decode cX8_prorates 300 = .ok (.iload 5, 2) := by decide +kernel
theorem dX8_prorates_302 : decode cX8_prorates 302 = .ok (.invokevirtual 357, 3) := by decide +kernel
theorem dX8_prorates_305 : decode cX8_prorates 305 = .ok (.aload_n 0, 1) := by decide +kernel
theorem dX8_prorates_306 : decode cX8_prorates 306 = .ok (.iload 5, 2) := by decide +kernel
theorem dX8_prorates_308 : decode cX8_prorates 308 = .ok (.lload 6, 2) := by decide +kernel
theorem dX8_prorates_310 : decode cX8_prorates 310 = .ok (.invokevirtual 360, 3) := by decide +kernel
theorem dX8_prorates_313 : decode cX8_prorates 313 = .ok (.return_, 1) := by decide +kernel
theorem dX8_goesFirst_0 : decode cX8_goesFirst 0 = .ok (.lconst 0, 1) := by decide +kernel
theorem dX8_goesFirst_1 : decode cX8_goesFirst 1 = .ok (.lstore_n 2, 1) := by decide +kernel
theorem dX8_goesFirst_2 : decode cX8_goesFirst 2 = .ok (.iconst 0, 1) := by decide +kernel
theorem dX8_goesFirst_3 : decode cX8_goesFirst 3 = .ok (.istore 4, 2) := by decide +kernel
theorem dX8_goesFirst_5 : decode cX8_goesFirst 5 = .ok (.iconst 0, 1) := by decide +kernel
theorem dX8_goesFirst_6 : decode cX8_goesFirst 6 = .ok (.istore 5, 2) := by decide +kernel
theorem dX8_goesFirst_8 : decode cX8_goesFirst 8 = .ok (.iconst 0, 1) := by decide +kernel
theorem dX8_goesFirst_9 : decode cX8_goesFirst 9 = .ok (.istore 6, 2) := by decide +kernel
theorem dX8_goesFirst_11 : decode cX8_goesFirst 11 = .ok (.iload 6, 2) := by decide +kernel
theorem dX8_goesFirst_13 : decode cX8_goesFirst 13 = .ok (.iload_n 1, 1) := by decide +kernel
theorem dX8_goesFirst_14 : decode cX8_goesFirst 14 = .ok (.if_icmp .ge 68, 3) := by decide +kernel
theorem dX8_goesFirst_17 : decode cX8_goesFirst 17 = .ok (.aload_n 0, 1) := by decide +kernel
theorem dX8_goesFirst_18 : decode cX8_goesFirst 18 = .ok (.getfield 84, 3) := by decide +kernel
theorem dX8_goesFirst_21 : decode cX8_goesFirst 21 = .ok (.iload 6, 2) := by decide +kernel
theorem dX8_goesFirst_23 : decode cX8_goesFirst 23 = .ok (.baload, 1) := by decide +kernel
theorem dX8_goesFirst_24 : decode cX8_goesFirst 24 = .ok (.ifCond .ne 6, 3) := by decide +kernel
theorem dX8_goesFirst_27 : decode cX8_goesFirst 27 = .ok (.goto 49, 3) := by decide +kernel
theorem dX8_goesFirst_30 : decode cX8_goesFirst 30 = .ok (.aload_n 0, 1) := by decide +kernel
theorem dX8_goesFirst_31 : decode cX8_goesFirst 31 = .ok (.getfield 78, 3) := by decide +kernel
theorem dX8_goesFirst_34 : decode cX8_goesFirst 34 = .ok (.iload 6, 2) := by decide +kernel
theorem dX8_goesFirst_36 : decode cX8_goesFirst 36 = .ok (.iaload, 1) := by decide +kernel
theorem dX8_goesFirst_37 : decode cX8_goesFirst 37 = .ok (.invokestatic 364, 3) := by decide +kernel
theorem dX8_goesFirst_40 : decode cX8_goesFirst 40 = .ok (.ifCond .eq 33, 3) := by decide +kernel
theorem dX8_goesFirst_43 : decode cX8_goesFirst 43 = .ok (.lload_n 2, 1) := by decide +kernel
theorem dX8_goesFirst_44 : decode cX8_goesFirst 44 = .ok (.aload_n 0, 1) := by decide +kernel
theorem dX8_goesFirst_45 : decode cX8_goesFirst 45 = .ok (.getfield 75, 3) := by decide +kernel
theorem dX8_goesFirst_48 : decode cX8_goesFirst 48 = .ok (.iload 6, 2) := by decide +kernel
theorem dX8_goesFirst_50 : decode cX8_goesFirst 50 = .ok (.laload, 1) := by decide +kernel
theorem dX8_goesFirst_51 : decode cX8_goesFirst 51 = .ok (.ladd, 1) := by decide +kernel
theorem dX8_goesFirst_52 : decode cX8_goesFirst 52 = .ok (.lstore_n 2, 1) := by decide +kernel
theorem dX8_goesFirst_53 : decode cX8_goesFirst 53 = .ok (.aload_n 0, 1) := by decide +kernel
theorem dX8_goesFirst_54 : decode cX8_goesFirst 54 = .ok (.getfield 81, 3) := by decide +kernel
theorem dX8_goesFirst_57 : decode cX8_goesFirst 57 = .ok (.iload 6, 2) := by decide +kernel
theorem dX8_goesFirst_59 : decode cX8_goesFirst 59 = .ok (.aload_n 0, 1) := by decide +kernel
theorem dX8_goesFirst_60 : decode cX8_goesFirst 60 = .ok (.getfield 78, 3) := by decide +kernel
theorem dX8_goesFirst_63 : decode cX8_goesFirst 63 = .ok (.iload 6, 2) := by decide +kernel
theorem dX8_goesFirst_65 : decode cX8_goesFirst 65 = .ok (.iaload, 1) := by decide +kernel
theorem dX8_goesFirst_66 : decode cX8_goesFirst 66 = .ok (.iastore, 1) := by decide +kernel
theorem dX8_goesFirst_67 : decode cX8_goesFirst 67 = .ok (.iinc 5 1, 3) := by decide +kernel
theorem dX8_goesFirst_70 : decode cX8_goesFirst 70 = .ok (.goto 6, 3) := by decide +kernel
theorem dX8_goesFirst_73 : decode cX8_goesFirst 73 = .ok (.iinc 4 1, 3) := by decide +kernel
theorem dX8_goesFirst_76 : decode cX8_goesFirst 76 = .ok (.iinc 6 1, 3) := by decide +kernel
theorem dX8_goesFirst_79 : decode cX8_goesFirst 79 = .ok (.goto (-68), 3) := by decide +kernel
theorem dX8_goesFirst_82 : decode cX8_goesFirst 82 = .ok (.iload 5, 2) := by decide +kernel
theorem dX8_goesFirst_84 : decode cX8_goesFirst 84 = .ok (.ifCond .le 79, 3) := by decide +kernel
theorem dX8_goesFirst_87 : decode cX8_goesFirst 87 = .ok (.lload_n 2, 1) := by decide +kernel
theorem dX8_goesFirst_88 : decode cX8_goesFirst 88 = .ok (.aload_n 0, 1) := by decide +kernel
theorem dX8_goesFirst_89 : decode cX8_goesFirst 89 = .ok (.getfield 354, 3) := by decide +kernel
theorem dX8_goesFirst_92 : decode cX8_goesFirst 92 = .ok (.lcmp, 1) := by decide +kernel
theorem dX8_goesFirst_93 : decode cX8_goesFirst 93 = .ok (.ifCond .le 70, 3) := by decide +kernel
theorem dX8_goesFirst_96 : decode cX8_goesFirst 96 = .ok (.iconst 0, 1) := by decide +kernel
theorem dX8_goesFirst_97 : decode cX8_goesFirst 97 = .ok (.istore 6, 2) := by decide +kernel
theorem dX8_goesFirst_99 : decode cX8_goesFirst 99 = .ok (.iload 6, 2) := by decide +kernel
theorem dX8_goesFirst_101 : decode cX8_goesFirst 101 = .ok (.iload_n 1, 1) := by decide +kernel
theorem dX8_goesFirst_102 : decode cX8_goesFirst 102 = .ok (.if_icmp .ge 55, 3) := by decide +kernel
theorem dX8_goesFirst_105 : decode cX8_goesFirst 105 = .ok (.aload_n 0, 1) := by decide +kernel
theorem dX8_goesFirst_106 : decode cX8_goesFirst 106 = .ok (.getfield 69, 3) := by decide +kernel
theorem dX8_goesFirst_109 : decode cX8_goesFirst 109 = .ok (.iload 6, 2) := by decide +kernel
theorem dX8_goesFirst_111 : decode cX8_goesFirst 111 = .ok (.aload_n 0, 1) := by decide +kernel
theorem dX8_goesFirst_112 : decode cX8_goesFirst 112 = .ok (.getfield 84, 3) := by decide +kernel
theorem dX8_goesFirst_115 : decode cX8_goesFirst 115 = .ok (.iload 6, 2) := by decide +kernel
theorem dX8_goesFirst_117 : decode cX8_goesFirst 117 = .ok (.baload, 1) := by decide +kernel
theorem dX8_goesFirst_118 : decode cX8_goesFirst 118 = .ok (.ifCond .eq 31, 3) := by decide +kernel
theorem dX8_goesFirst_121 : decode cX8_goesFirst 121 = .ok (.aload_n 0, 1) := by decide +kernel
theorem dX8_goesFirst_122 : decode cX8_goesFirst 122 = .ok (.getfield 78, 3) := by decide +kernel
theorem dX8_goesFirst_125 : decode cX8_goesFirst 125 = .ok (.iload 6, 2) := by decide +kernel
theorem dX8_goesFirst_127 : decode cX8_goesFirst 127 = .ok (.iaload, 1) := by decide +kernel
theorem dX8_goesFirst_128 : decode cX8_goesFirst 128 = .ok (.invokestatic 364, 3) := by decide +kernel
theorem dX8_goesFirst_131 : decode cX8_goesFirst 131 = .ok (.ifCond .eq 18, 3) := by decide +kernel
theorem dX8_goesFirst_134 : decode cX8_goesFirst 134 = .ok (.aload_n 0, 1) := by decide +kernel
theorem dX8_goesFirst_135 : decode cX8_goesFirst 135 = .ok (.getfield 354, 3) := by decide +kernel
theorem dX8_goesFirst_138 : decode cX8_goesFirst 138 = .ok (.aload_n 0, 1) := by decide +kernel
theorem dX8_goesFirst_139 : decode cX8_goesFirst 139 = .ok (.getfield 75, 3) := by decide +kernel
theorem dX8_goesFirst_142 : decode cX8_goesFirst 142 = .ok (.iload 6, 2) := by decide +kernel
theorem dX8_goesFirst_144 : decode cX8_goesFirst 144 = .ok (.laload, 1) := by decide +kernel
theorem dX8_goesFirst_145 : decode cX8_goesFirst 145 = .ok (.lmul, 1) := by decide +kernel
theorem dX8_goesFirst_146 : decode cX8_goesFirst 146 = .ok (.goto 4, 3) := by decide +kernel
theorem dX8_goesFirst_149 : decode cX8_goesFirst 149 = .ok (.lconst 0, 1) := by decide +kernel
theorem dX8_goesFirst_150 : decode cX8_goesFirst 150 = .ok (.lastore, 1) := by decide +kernel
theorem dX8_goesFirst_151 : decode cX8_goesFirst 151 = .ok (.iinc 6 1, 3) := by decide +kernel
theorem dX8_goesFirst_154 : decode cX8_goesFirst 154 = .ok (.goto (-55), 3) := by decide +kernel
theorem dX8_goesFirst_157 : decode cX8_goesFirst 157 = .ok (.aload_n 0, 1) := by decide +kernel
theorem dX8_goesFirst_158 : decode cX8_goesFirst 158 = .ok (.lload_n 2, 1) := by decide +kernel
theorem dX8_goesFirst_159 : decode cX8_goesFirst 159 = .ok (.putfield 338, 3) := by decide +kernel
theorem dX8_goesFirst_162 : decode cX8_goesFirst 162 = .ok (.return_, 1) := by decide +kernel
theorem dX8_goesFirst_163 : decode cX8_goesFirst 163 = .ok (.aload_n 0, 1) := by decide +kernel
theorem dX8_goesFirst_164 : decode cX8_goesFirst 164 = .ok (.dup, 1) := by decide +kernel
theorem dX8_goesFirst_165 : decode cX8_goesFirst 165 = .ok (.getfield 354, 3) := by decide +kernel
theorem dX8_goesFirst_168 : decode cX8_goesFirst 168 = .ok (.lload_n 2, 1) := by decide +kernel
theorem dX8_goesFirst_169 : decode cX8_goesFirst 169 = .ok (.lsub, 1) := by decide +kernel
theorem dX8_goesFirst_170 : decode cX8_goesFirst 170 = .ok (.putfield 354, 3) := by decide +kernel
theorem dX8_goesFirst_173 : decode cX8_goesFirst 173 = .ok (.lconst 0, 1) := by decide +kernel
theorem dX8_goesFirst_174 : decode cX8_goesFirst 174 = .ok (.lstore 6, 2) := by decide +kernel
theorem dX8_goesFirst_176 : decode cX8_goesFirst 176 = .ok (.iconst 0, 1) := by decide +kernel
theorem dX8_goesFirst_177 : decode cX8_goesFirst 177 = .ok (.istore 8, 2) := by decide +kernel
theorem dX8_goesFirst_179 : decode cX8_goesFirst 179 = .ok (.iload 8, 2) := by decide +kernel
theorem dX8_goesFirst_181 : decode cX8_goesFirst 181 = .ok (.iload_n 1, 1) := by decide +kernel
theorem dX8_goesFirst_182 : decode cX8_goesFirst 182 = .ok (.if_icmp .ge 69, 3) := by decide +kernel
theorem dX8_goesFirst_185 : decode cX8_goesFirst 185 = .ok (.aload_n 0, 1) := by decide +kernel
theorem dX8_goesFirst_186 : decode cX8_goesFirst 186 = .ok (.getfield 84, 3) := by decide +kernel
theorem dX8_goesFirst_189 : decode cX8_goesFirst 189 = .ok (.iload 8, 2) := by decide +kernel
theorem dX8_goesFirst_191 : decode cX8_goesFirst 191 = .ok (.baload, 1) := by decide +kernel
theorem dX8_goesFirst_192 : decode cX8_goesFirst 192 = .ok (.ifCond .eq 53, 3) := by decide +kernel
theorem dX8_goesFirst_195 : decode cX8_goesFirst 195 = .ok (.aload_n 0, 1) := by decide +kernel
theorem dX8_goesFirst_196 : decode cX8_goesFirst 196 = .ok (.getfield 78, 3) := by decide +kernel
theorem dX8_goesFirst_199 : decode cX8_goesFirst 199 = .ok (.iload 8, 2) := by decide +kernel
theorem dX8_goesFirst_201 : decode cX8_goesFirst 201 = .ok (.iaload, 1) := by decide +kernel
theorem dX8_goesFirst_202 : decode cX8_goesFirst 202 = .ok (.invokestatic 364, 3) := by decide +kernel
theorem dX8_goesFirst_205 : decode cX8_goesFirst 205 = .ok (.ifCond .ne 6, 3) := by decide +kernel
theorem dX8_goesFirst_208 : decode cX8_goesFirst 208 = .ok (.goto 37, 3) := by decide +kernel
theorem dX8_goesFirst_211 : decode cX8_goesFirst 211 = .ok (.aload_n 0, 1) := by decide +kernel
theorem dX8_goesFirst_212 : decode cX8_goesFirst 212 = .ok (.getfield 65, 3) := by decide +kernel
theorem dX8_goesFirst_215 : decode cX8_goesFirst 215 = .ok (.iload 8, 2) := by decide +kernel
theorem dX8_goesFirst_217 : decode cX8_goesFirst 217 = .ok (.aload_n 0, 1) := by decide +kernel
theorem dX8_goesFirst_218 : decode cX8_goesFirst 218 = .ok (.getfield 75, 3) := by decide +kernel
theorem dX8_goesFirst_221 : decode cX8_goesFirst 221 = .ok (.iload 8, 2) := by decide +kernel
theorem dX8_goesFirst_223 : decode cX8_goesFirst 223 = .ok (.laload, 1) := by decide +kernel
theorem dX8_goesFirst_224 : decode cX8_goesFirst 224 = .ok (.lastore, 1) := by decide +kernel
theorem dX8_goesFirst_225 : decode cX8_goesFirst 225 = .ok (.aload_n 0, 1) := by decide +kernel
theorem dX8_goesFirst_226 : decode cX8_goesFirst 226 = .ok (.getfield 84, 3) := by decide +kernel
theorem dX8_goesFirst_229 : decode cX8_goesFirst 229 = .ok (.iload 8, 2) := by decide +kernel
theorem dX8_goesFirst_231 : decode cX8_goesFirst 231 = .ok (.iconst 0, 1) := by decide +kernel
theorem dX8_goesFirst_232 : decode cX8_goesFirst 232 = .ok (.bastore, 1) := by decide +kernel
theorem dX8_goesFirst_233 : decode cX8_goesFirst 233 = .ok (.lload 6, 2) := by decide +kernel
theorem dX8_goesFirst_235 : decode cX8_goesFirst 235 = .ok (.aload_n 0, 1) := by decide +kernel
theorem dX8_goesFirst_236 : decode cX8_goesFirst 236 = .ok (.getfield 72, 3) := by decide +kernel
theorem dX8_goesFirst_239 : decode cX8_goesFirst 239 = .ok (.iload 8, 2) := by decide +kernel
theorem dX8_goesFirst_241 : decode cX8_goesFirst 241 = .ok (.laload, 1) := by decide +kernel
theorem dX8_goesFirst_242 : decode cX8_goesFirst 242 = .ok (.ladd, 1) := by decide +kernel
theorem dX8_goesFirst_243 : decode cX8_goesFirst 243 = .ok (.lstore 6, 2) := by decide +kernel
theorem dX8_goesFirst_245 : decode cX8_goesFirst 245 = .ok (.iinc 8 1, 3) := by decide +kernel
theorem dX8_goesFirst_248 : decode cX8_goesFirst 248 = .ok (.goto (-69), 3) := by decide +kernel
theorem dX8_goesFirst_251 : decode cX8_goesFirst 251 = .ok (.iload 4, 2) := by decide +kernel
theorem dX8_goesFirst_253 : decode cX8_goesFirst 253 = .ok (.ifCond .le 9, 3) := by decide +kernel
theorem dX8_goesFirst_256 : decode cX8_goesFirst 256 = .ok (.aload_n 0, 1) := by decide +kernel
theorem dX8_goesFirst_257 : decode cX8_goesFirst 257 = .ok (.iload_n 1, 1) := by decide +kernel
theorem dX8_goesFirst_258 : decode cX8_goesFirst 258 = .ok (.invokevirtual 367, 3) := by decide +kernel
theorem dX8_goesFirst_261 : decode cX8_goesFirst 261 = .ok (.return_, 1) := by decide +kernel
theorem dX8_goesFirst_262 : decode cX8_goesFirst 262 = .ok (.iload 5, 2) := by decide +kernel
theorem dX8_goesFirst_264 : decode cX8_goesFirst 264 = .ok (.ifCond .ne 4, 3) := by decide +kernel
theorem dX8_goesFirst_267 : decode cX8_goesFirst 267 = .ok (.return_, 1) := by decide +kernel
theorem dX8_goesFirst_268 : decode cX8_goesFirst 268 = .ok (.aload_n 0, 1) := by decide +kernel
theorem dX8_goesFirst_269 : decode cX8_goesFirst 269 = .ok (.lload 6, 2) := by decide +kernel
theorem dX8_goesFirst_271 : decode cX8_goesFirst 271 = .ok (.putfield 338, 3) := by decide +kernel
theorem dX8_goesFirst_274 : decode cX8_goesFirst 274 = .ok (.iconst 0, 1) := by decide +kernel
theorem dX8_goesFirst_275 : decode cX8_goesFirst 275 = .ok (.istore 8, 2) := by decide +kernel
theorem dX8_goesFirst_277 : decode cX8_goesFirst 277 = .ok (.iload 8, 2) := by decide +kernel
theorem dX8_goesFirst_279 : decode cX8_goesFirst 279 = .ok (.iload_n 1, 1) := by decide +kernel
theorem dX8_goesFirst_280 : decode cX8_goesFirst 280 = .ok (.if_icmp .ge 54, 3) := by decide +kernel
theorem dX8_goesFirst_283 : decode cX8_goesFirst 283 = .ok (.aload_n 0, 1) := by decide +kernel
theorem dX8_goesFirst_284 : decode cX8_goesFirst 284 = .ok (.getfield 69, 3) := by decide +kernel
theorem dX8_goesFirst_287 : decode cX8_goesFirst 287 = .ok (.iload 8, 2) := by decide +kernel
theorem dX8_goesFirst_289 : decode cX8_goesFirst 289 = .ok (.aload_n 0, 1) := by decide +kernel
theorem dX8_goesFirst_290 : decode cX8_goesFirst 290 = .ok (.getfield 81, 3) := by decide +kernel
theorem dX8_goesFirst_293 : decode cX8_goesFirst 293 = .ok (.iload 8, 2) := by decide +kernel
theorem dX8_goesFirst_295 : decode cX8_goesFirst 295 = .ok (.iaload, 1) := by decide +kernel
theorem dX8_goesFirst_296 : decode cX8_goesFirst 296 = .ok (.iconst 1, 1) := by decide +kernel
theorem dX8_goesFirst_297 : decode cX8_goesFirst 297 = .ok (.if_icmp .eq 14, 3) := by decide +kernel
theorem dX8_goesFirst_300 : decode cX8_goesFirst 300 = .ok (.aload_n 0, 1) := by decide +kernel
theorem dX8_goesFirst_301 : decode cX8_goesFirst 301 = .ok (.getfield 81, 3) := by decide +kernel
theorem dX8_goesFirst_304 : decode cX8_goesFirst 304 = .ok (.iload 8, 2) := by decide +kernel
theorem dX8_goesFirst_306 : decode cX8_goesFirst 306 = .ok (.iaload, 1) := by decide +kernel
theorem dX8_goesFirst_307 : decode cX8_goesFirst 307 = .ok (.iconst 2, 1) := by decide +kernel
theorem dX8_goesFirst_308 : decode cX8_goesFirst 308 = .ok (.if_icmp .ne 18, 3) := by decide +kernel
theorem dX8_goesFirst_311 : decode cX8_goesFirst 311 = .ok (.aload_n 0, 1) := by decide +kernel
theorem dX8_goesFirst_312 : decode cX8_goesFirst 312 = .ok (.getfield 354, 3) := by decide +kernel
theorem dX8_goesFirst_315 : decode cX8_goesFirst 315 = .ok (.aload_n 0, 1) := by decide +kernel
theorem dX8_goesFirst_316 : decode cX8_goesFirst 316 = .ok (.getfield 72, 3) := by decide +kernel
theorem dX8_goesFirst_319 : decode cX8_goesFirst 319 = .ok (.iload 8, 2) := by decide +kernel
theorem dX8_goesFirst_321 : decode cX8_goesFirst 321 = .ok (.laload, 1) := by decide +kernel
theorem dX8_goesFirst_322 : decode cX8_goesFirst 322 = .ok (.lmul, 1) := by decide +kernel
theorem dX8_goesFirst_323 : decode cX8_goesFirst 323 = .ok (.goto 4, 3) := by decide +kernel
theorem dX8_goesFirst_326 : decode cX8_goesFirst 326 = .ok (.lconst 0, 1) := by decide +kernel
theorem dX8_goesFirst_327 : decode cX8_goesFirst 327 = .ok (.lastore, 1) := by decide +kernel
theorem dX8_goesFirst_328 : decode cX8_goesFirst 328 = .ok (.iinc 8 1, 3) := by decide +kernel
theorem dX8_goesFirst_331 : decode cX8_goesFirst 331 = .ok (.goto (-54), 3) := by decide +kernel
theorem dX8_goesFirst_334 : decode cX8_goesFirst 334 = .ok (.return_, 1) := by decide +kernel
theorem dX8_freeFactors_0 : decode cX8_freeFactors 0 = .ok (.lconst 0, 1) := by decide +kernel
theorem dX8_freeFactors_1 : decode cX8_freeFactors 1 = .ok (.lstore_n 2, 1) := by decide +kernel
theorem dX8_freeFactors_2 : decode cX8_freeFactors 2 = .ok (.iconst 0, 1) := by decide +kernel
theorem dX8_freeFactors_3 : decode cX8_freeFactors 3 = .ok (.istore 4, 2) := by decide +kernel
theorem dX8_freeFactors_5 : decode cX8_freeFactors 5 = .ok (.iload 4, 2) := by decide +kernel
theorem dX8_freeFactors_7 : decode cX8_freeFactors 7 = .ok (.iload_n 1, 1) := by decide +kernel
theorem dX8_freeFactors_8 : decode cX8_freeFactors 8 = .ok (.if_icmp .ge 33, 3) := by decide +kernel
theorem dX8_freeFactors_11 : decode cX8_freeFactors 11 = .ok (.lload_n 2, 1) := by decide +kernel
theorem dX8_freeFactors_12 : decode cX8_freeFactors 12 = .ok (.aload_n 0, 1) := by decide +kernel
theorem dX8_freeFactors_13 : decode cX8_freeFactors 13 = .ok (.getfield 84, 3) := by decide +kernel
theorem dX8_freeFactors_16 : decode cX8_freeFactors 16 = .ok (.iload 4, 2) := by decide +kernel
theorem dX8_freeFactors_18 : decode cX8_freeFactors 18 = .ok (.baload, 1) := by decide +kernel
theorem dX8_freeFactors_19 : decode cX8_freeFactors 19 = .ok (.ifCond .eq 13, 3) := by decide +kernel
theorem dX8_freeFactors_22 : decode cX8_freeFactors 22 = .ok (.aload_n 0, 1) := by decide +kernel
theorem dX8_freeFactors_23 : decode cX8_freeFactors 23 = .ok (.getfield 72, 3) := by decide +kernel
theorem dX8_freeFactors_26 : decode cX8_freeFactors 26 = .ok (.iload 4, 2) := by decide +kernel
theorem dX8_freeFactors_28 : decode cX8_freeFactors 28 = .ok (.laload, 1) := by decide +kernel
theorem dX8_freeFactors_29 : decode cX8_freeFactors 29 = .ok (.goto 4, 3) := by decide +kernel
theorem dX8_freeFactors_32 : decode cX8_freeFactors 32 = .ok (.lconst 0, 1) := by decide +kernel
theorem dX8_freeFactors_33 : decode cX8_freeFactors 33 = .ok (.ladd, 1) := by decide +kernel
theorem dX8_freeFactors_34 : decode cX8_freeFactors 34 = .ok (.lstore_n 2, 1) := by decide +kernel
theorem dX8_freeFactors_35 : decode cX8_freeFactors 35 = .ok (.iinc 4 1, 3) := by decide +kernel
theorem dX8_freeFactors_38 : decode cX8_freeFactors 38 = .ok (.goto (-33), 3) := by decide +kernel
theorem dX8_freeFactors_41 : decode cX8_freeFactors 41 = .ok (.lload_n 2, 1) := by decide +kernel
theorem dX8_freeFactors_42 : decode cX8_freeFactors 42 = .ok (.lreturn, 1) := by decide +kernel
theorem dX8_leasts_0 : decode cX8_leasts 0 = .ok (.aload_n 0, 1) := by decide +kernel
theorem dX8_leasts_1 : decode cX8_leasts 1 = .ok (.iload_n 1, 1) := by decide +kernel
theorem dX8_leasts_2 : decode cX8_leasts 2 = .ok (.invokevirtual 370, 3) := by decide +kernel
theorem dX8_leasts_5 : decode cX8_leasts 5 = .ok (.lstore_n 2, 1) := by decide +kernel
theorem dX8_leasts_6 : decode cX8_leasts 6 = .ok (.lconst 0, 1) := by decide +kernel
theorem dX8_leasts_7 : decode cX8_leasts 7 = .ok (.lstore 4, 2) := by decide +kernel
theorem dX8_leasts_9 : decode cX8_leasts 9 = .ok (.iconst 0, 1) := by decide +kernel
theorem dX8_leasts_10 : decode cX8_leasts 10 = .ok (.istore 6, 2) := by decide +kernel
theorem dX8_leasts_12 : decode cX8_leasts 12 = .ok (.iload 6, 2) := by decide +kernel
theorem dX8_leasts_14 : decode cX8_leasts 14 = .ok (.iload_n 1, 1) := by decide +kernel
theorem dX8_leasts_15 : decode cX8_leasts 15 = .ok (.if_icmp .ge 31, 3) := by decide +kernel
theorem dX8_leasts_18 : decode cX8_leasts 18 = .ok (.aload_n 0, 1) := by decide +kernel
theorem dX8_leasts_19 : decode cX8_leasts 19 = .ok (.iload 6, 2) := by decide +kernel
theorem dX8_leasts_21 : decode cX8_leasts 21 = .ok (.lload_n 2, 1) := by decide +kernel
theorem dX8_leasts_22 : decode cX8_leasts 22 = .ok (.invokevirtual 373, 3) := by decide +kernel
theorem dX8_leasts_25 : decode cX8_leasts 25 = .ok (.ifCond .eq 15, 3) := by decide +kernel
theorem dX8_leasts_28 : decode cX8_leasts 28 = .ok (.lload 4, 2) := by decide +kernel
theorem dX8_leasts_30 : decode cX8_leasts 30 = .ok (.aload_n 0, 1) := by decide +kernel
theorem dX8_leasts_31 : decode cX8_leasts 31 = .ok (.getfield 75, 3) := by decide +kernel
theorem dX8_leasts_34 : decode cX8_leasts 34 = .ok (.iload 6, 2) := by decide +kernel
theorem dX8_leasts_36 : decode cX8_leasts 36 = .ok (.laload, 1) := by decide +kernel
theorem dX8_leasts_37 : decode cX8_leasts 37 = .ok (.ladd, 1) := by decide +kernel
theorem dX8_leasts_38 : decode cX8_leasts 38 = .ok (.lstore 4, 2) := by decide +kernel
theorem dX8_leasts_40 : decode cX8_leasts 40 = .ok (.iinc 6 1, 3) := by decide +kernel
theorem dX8_leasts_43 : decode cX8_leasts 43 = .ok (.goto (-31), 3) := by decide +kernel
theorem dX8_leasts_46 : decode cX8_leasts 46 = .ok (.lload 4, 2) := by decide +kernel
theorem dX8_leasts_48 : decode cX8_leasts 48 = .ok (.lconst 0, 1) := by decide +kernel
theorem dX8_leasts_49 : decode cX8_leasts 49 = .ok (.lcmp, 1) := by decide +kernel
theorem dX8_leasts_50 : decode cX8_leasts 50 = .ok (.ifCond .ne 6, 3) := by decide +kernel
theorem dX8_leasts_53 : decode cX8_leasts 53 = .ok (.goto 167, 3) := by decide +kernel
theorem dX8_leasts_56 : decode cX8_leasts 56 = .ok (.aload_n 0, 1) := by decide +kernel
theorem dX8_leasts_57 : decode cX8_leasts 57 = .ok (.dup, 1) := by decide +kernel
theorem dX8_leasts_58 : decode cX8_leasts 58 = .ok (.getfield 332, 3) := by decide +kernel
theorem dX8_leasts_61 : decode cX8_leasts 61 = .ok (.iconst 1, 1) := by decide +kernel
theorem dX8_leasts_62 : decode cX8_leasts 62 = .ok (.iadd, 1) := by decide +kernel
theorem dX8_leasts_63 : decode cX8_leasts 63 = .ok (.putfield 332, 3) := by decide +kernel
theorem dX8_leasts_66 : decode cX8_leasts 66 = .ok (.lload 4, 2) := by decide +kernel
theorem dX8_leasts_68 : decode cX8_leasts 68 = .ok (.aload_n 0, 1) := by decide +kernel
theorem dX8_leasts_69 : decode cX8_leasts 69 = .ok (.getfield 354, 3) := by decide +kernel
theorem dX8_leasts_72 : decode cX8_leasts 72 = .ok (.lcmp, 1) := by decide +kernel
theorem dX8_leasts_73 : decode cX8_leasts 73 = .ok (.ifCond .le 7, 3) := by decide +kernel
theorem dX8_leasts_76 : decode cX8_leasts 76 = .ok (.iconst 1, 1) := by decide +kernel
theorem dX8_leasts_77 : decode cX8_leasts 77 = .ok (.goto 4, 3) := by decide +kernel
theorem dX8_leasts_80 : decode cX8_leasts 80 = .ok (.iconst 0, 1) := by decide +kernel
theorem dX8_leasts_81 : decode cX8_leasts 81 = .ok (.istore 6, 2) := by decide +kernel
theorem dX8_leasts_83 : decode cX8_leasts 83 = .ok (.iconst 0, 1) := by decide +kernel
theorem dX8_leasts_84 : decode cX8_leasts 84 = .ok (.istore 7, 2) := by decide +kernel
theorem dX8_leasts_86 : decode cX8_leasts 86 = .ok (.iload 7, 2) := by decide +kernel
theorem dX8_leasts_88 : decode cX8_leasts 88 = .ok (.iload_n 1, 1) := by decide +kernel
theorem dX8_leasts_89 : decode cX8_leasts 89 = .ok (.if_icmp .ge 71, 3) := by decide +kernel
theorem dX8_leasts_92 : decode cX8_leasts 92 = .ok (.aload_n 0, 1) := by decide +kernel
theorem dX8_leasts_93 : decode cX8_leasts 93 = .ok (.iload 7, 2) := by decide +kernel
theorem dX8_leasts_95 : decode cX8_leasts 95 = .ok (.lload_n 2, 1) := by decide +kernel
theorem dX8_leasts_96 : decode cX8_leasts 96 = .ok (.invokevirtual 373, 3) := by decide +kernel
theorem dX8_leasts_99 : decode cX8_leasts 99 = .ok (.ifCond .ne 6, 3) := by decide +kernel
theorem dX8_leasts_102 : decode cX8_leasts 102 = .ok (.goto 52, 3) := by decide +kernel
theorem dX8_leasts_105 : decode cX8_leasts 105 = .ok (.aload_n 0, 1) := by decide +kernel
theorem dX8_leasts_106 : decode cX8_leasts 106 = .ok (.getfield 81, 3) := by decide +kernel
theorem dX8_leasts_109 : decode cX8_leasts 109 = .ok (.iload 7, 2) := by decide +kernel
theorem dX8_leasts_111 : decode cX8_leasts 111 = .ok (.iconst 3, 1) := by decide +kernel
theorem dX8_leasts_112 : decode cX8_leasts 112 = .ok (.iastore, 1) := by decide +kernel
theorem dX8_leasts_113 : decode cX8_leasts 113 = .ok (.iload 6, 2) := by decide +kernel
theorem dX8_leasts_115 : decode cX8_leasts 115 = .ok (.ifCond .eq 25, 3) := by decide +kernel
theorem dX8_leasts_118 : decode cX8_leasts 118 = .ok (.aload_n 0, 1) := by decide +kernel
theorem dX8_leasts_119 : decode cX8_leasts 119 = .ok (.getfield 69, 3) := by decide +kernel
theorem dX8_leasts_122 : decode cX8_leasts 122 = .ok (.iload 7, 2) := by decide +kernel
theorem dX8_leasts_124 : decode cX8_leasts 124 = .ok (.aload_n 0, 1) := by decide +kernel
theorem dX8_leasts_125 : decode cX8_leasts 125 = .ok (.getfield 354, 3) := by decide +kernel
theorem dX8_leasts_128 : decode cX8_leasts 128 = .ok (.aload_n 0, 1) := by decide +kernel
theorem dX8_leasts_129 : decode cX8_leasts 129 = .ok (.getfield 75, 3) := by decide +kernel
theorem dX8_leasts_132 : decode cX8_leasts 132 = .ok (.iload 7, 2) := by decide +kernel
theorem dX8_leasts_134 : decode cX8_leasts 134 = .ok (.laload, 1) := by decide +kernel
theorem dX8_leasts_135 : decode cX8_leasts 135 = .ok (.lmul, 1) := by decide +kernel
theorem dX8_leasts_136 : decode cX8_leasts 136 = .ok (.lastore, 1) := by decide +kernel
theorem dX8_leasts_137 : decode cX8_leasts 137 = .ok (.goto 17, 3) := by decide +kernel
theorem dX8_leasts_140 : decode cX8_leasts 140 = .ok (.aload_n 0, 1) := by decide +kernel
theorem dX8_leasts_141 : decode cX8_leasts 141 = .ok (.getfield 65, 3) := by decide +kernel
theorem dX8_leasts_144 : decode cX8_leasts 144 = .ok (.iload 7, 2) := by decide +kernel
theorem dX8_leasts_146 : decode cX8_leasts 146 = .ok (.aload_n 0, 1) := by decide +kernel
theorem dX8_leasts_147 : decode cX8_leasts 147 = .ok (.getfield 75, 3) := by decide +kernel
theorem dX8_leasts_150 : decode cX8_leasts 150 = .ok (.iload 7, 2) := by decide +kernel
theorem dX8_leasts_152 : decode cX8_leasts 152 = .ok (.laload, 1) := by decide +kernel
theorem dX8_leasts_153 : decode cX8_leasts 153 = .ok (.lastore, 1) := by decide +kernel
theorem dX8_leasts_154 : decode cX8_leasts 154 = .ok (.iinc 7 1, 3) := by decide +kernel
theorem dX8_leasts_157 : decode cX8_leasts 157 = .ok (.goto (-71), 3) := by decide +kernel
theorem dX8_leasts_160 : decode cX8_leasts 160 = .ok (.iload 6, 2) := by decide +kernel
theorem dX8_leasts_162 : decode cX8_leasts 162 = .ok (.ifCond .eq 10, 3) := by decide +kernel
theorem dX8_leasts_165 : decode cX8_leasts 165 = .ok (.aload_n 0, 1) := by decide +kernel
theorem dX8_leasts_166 : decode cX8_leasts 166 = .ok (.lload 4, 2) := by decide +kernel
theorem dX8_leasts_168 : decode cX8_leasts 168 = .ok (.putfield 338, 3) := by decide +kernel
theorem dX8_leasts_171 : decode cX8_leasts 171 = .ok (.return_, 1) := by decide +kernel
theorem dX8_leasts_172 : decode cX8_leasts 172 = .ok (.iconst 0, 1) := by decide +kernel
theorem dX8_leasts_173 : decode cX8_leasts 173 = .ok (.istore 7, 2) := by decide +kernel
theorem dX8_leasts_175 : decode cX8_leasts 175 = .ok (.iload 7, 2) := by decide +kernel
theorem dX8_leasts_177 : decode cX8_leasts 177 = .ok (.iload_n 1, 1) := by decide +kernel
theorem dX8_leasts_178 : decode cX8_leasts 178 = .ok (.if_icmp .ge 28, 3) := by decide +kernel
theorem dX8_leasts_181 : decode cX8_leasts 181 = .ok (.aload_n 0, 1) := by decide +kernel
theorem dX8_leasts_182 : decode cX8_leasts 182 = .ok (.getfield 81, 3) := by decide +kernel
theorem dX8_leasts_185 : decode cX8_leasts 185 = .ok (.iload 7, 2) := by decide +kernel
theorem dX8_leasts_187 : decode cX8_leasts 187 = .ok (.iaload, 1) := by decide +kernel
theorem dX8_leasts_188 : decode cX8_leasts 188 = .ok (.iconst 3, 1) := by decide +kernel
theorem dX8_leasts_189 : decode cX8_leasts 189 = .ok (.if_icmp .ne 11, 3) := by decide +kernel
theorem dX8_leasts_192 : decode cX8_leasts 192 = .ok (.aload_n 0, 1) := by decide +kernel
theorem dX8_leasts_193 : decode cX8_leasts 193 = .ok (.getfield 84, 3) := by decide +kernel
theorem dX8_leasts_196 : decode cX8_leasts 196 = .ok (.iload 7, 2) := by decide +kernel
theorem dX8_leasts_198 : decode cX8_leasts 198 = .ok (.iconst 0, 1) := by decide +kernel
theorem dX8_leasts_199 : decode cX8_leasts 199 = .ok (.bastore, 1) := by decide +kernel
theorem dX8_leasts_200 : decode cX8_leasts 200 = .ok (.iinc 7 1, 3) := by decide +kernel
theorem dX8_leasts_203 : decode cX8_leasts 203 = .ok (.goto (-28), 3) := by decide +kernel
theorem dX8_leasts_206 : decode cX8_leasts 206 = .ok (.aload_n 0, 1) := by decide +kernel
theorem dX8_leasts_207 : decode cX8_leasts 207 = .ok (.dup, 1) := by decide +kernel
theorem dX8_leasts_208 : decode cX8_leasts 208 = .ok (.getfield 354, 3) := by decide +kernel
theorem dX8_leasts_211 : decode cX8_leasts 211 = .ok (.lload 4, 2) := by decide +kernel
theorem dX8_leasts_213 : decode cX8_leasts 213 = .ok (.lsub, 1) := by decide +kernel
theorem dX8_leasts_214 : decode cX8_leasts 214 = .ok (.putfield 354, 3) := by decide +kernel
theorem dX8_leasts_217 : decode cX8_leasts 217 = .ok (.goto (-217), 3) := by decide +kernel
theorem dX8_leasts_220 : decode cX8_leasts 220 = .ok (.aload_n 0, 1) := by decide +kernel
theorem dX8_leasts_221 : decode cX8_leasts 221 = .ok (.iload_n 1, 1) := by decide +kernel
theorem dX8_leasts_222 : decode cX8_leasts 222 = .ok (.invokevirtual 377, 3) := by decide +kernel
theorem dX8_leasts_225 : decode cX8_leasts 225 = .ok (.return_, 1) := by decide +kernel
theorem dX8_isShort_0 : decode cX8_isShort 0 = .ok (.aload_n 0, 1) := by decide +kernel
theorem dX8_isShort_1 : decode cX8_isShort 1 = .ok (.getfield 84, 3) := by decide +kernel
theorem dX8_isShort_4 : decode cX8_isShort 4 = .ok (.iload_n 1, 1) := by decide +kernel
theorem dX8_isShort_5 : decode cX8_isShort 5 = .ok (.baload, 1) := by decide +kernel
theorem dX8_isShort_6 : decode cX8_isShort 6 = .ok (.ifCond .eq 40, 3) := by decide +kernel
theorem dX8_isShort_9 : decode cX8_isShort 9 = .ok (.aload_n 0, 1) := by decide +kernel
theorem dX8_isShort_10 : decode cX8_isShort 10 = .ok (.getfield 78, 3) := by decide +kernel
theorem dX8_isShort_13 : decode cX8_isShort 13 = .ok (.iload_n 1, 1) := by decide +kernel
theorem dX8_isShort_14 : decode cX8_isShort 14 = .ok (.iaload, 1) := by decide +kernel
theorem dX8_isShort_15 : decode cX8_isShort 15 = .ok (.iconst 3, 1) := by decide +kernel
theorem dX8_isShort_16 : decode cX8_isShort 16 = .ok (.if_icmp .ne 30, 3) := by decide +kernel
theorem dX8_isShort_19 : decode cX8_isShort 19 = .ok (.aload_n 0, 1) := by decide +kernel
theorem dX8_isShort_20 : decode cX8_isShort 20 = .ok (.getfield 354, 3) := by decide +kernel
theorem dX8_isShort_23 : decode cX8_isShort 23 = .ok (.aload_n 0, 1) := by decide +kernel
theorem dX8_isShort_24 : decode cX8_isShort 24 = .ok (.getfield 72, 3) := by decide +kernel
theorem dX8_isShort_27 : decode cX8_isShort 27 = .ok (.iload_n 1, 1) := by decide +kernel
theorem dX8_isShort_28 : decode cX8_isShort 28 = .ok (.laload, 1) := by decide +kernel
theorem dX8_isShort_29 : decode cX8_isShort 29 = .ok (.lmul, 1) := by decide +kernel
theorem dX8_isShort_30 : decode cX8_isShort 30 = .ok (.aload_n 0, 1) := by decide +kernel
theorem dX8_isShort_31 : decode cX8_isShort 31 = .ok (.getfield 75, 3) := by decide +kernel
theorem dX8_isShort_34 : decode cX8_isShort 34 = .ok (.iload_n 1, 1) := by decide +kernel
theorem dX8_isShort_35 : decode cX8_isShort 35 = .ok (.laload, 1) := by decide +kernel
theorem dX8_isShort_36 : decode cX8_isShort 36 = .ok (.lload_n 2, 1) := by decide +kernel
theorem dX8_isShort_37 : decode cX8_isShort 37 = .ok (.lmul, 1) := by decide +kernel
theorem dX8_isShort_38 : decode cX8_isShort 38 = .ok (.lcmp, 1) := by decide +kernel
theorem dX8_isShort_39 : decode cX8_isShort 39 = .ok (.ifCond .ge 7, 3) := by decide +kernel
theorem dX8_isShort_42 : decode cX8_isShort 42 = .ok (.iconst 1, 1) := by decide +kernel
theorem dX8_isShort_43 : decode cX8_isShort 43 = .ok (.goto 4, 3) := by decide +kernel
theorem dX8_isShort_46 : decode cX8_isShort 46 = .ok (.iconst 0, 1) := by decide +kernel
theorem dX8_isShort_47 : decode cX8_isShort 47 = .ok (.ireturn, 1) := by decide +kernel
theorem dX8_isLong_0 : decode cX8_isLong 0 = .ok (.aload_n 0, 1) := by decide +kernel
theorem dX8_isLong_1 : decode cX8_isLong 1 = .ok (.getfield 84, 3) := by decide +kernel
theorem dX8_isLong_4 : decode cX8_isLong 4 = .ok (.iload_n 1, 1) := by decide +kernel
theorem dX8_isLong_5 : decode cX8_isLong 5 = .ok (.baload, 1) := by decide +kernel
theorem dX8_isLong_6 : decode cX8_isLong 6 = .ok (.ifCond .eq 40, 3) := by decide +kernel
theorem dX8_isLong_9 : decode cX8_isLong 9 = .ok (.aload_n 0, 1) := by decide +kernel
theorem dX8_isLong_10 : decode cX8_isLong 10 = .ok (.getfield 78, 3) := by decide +kernel
theorem dX8_isLong_13 : decode cX8_isLong 13 = .ok (.iload_n 1, 1) := by decide +kernel
theorem dX8_isLong_14 : decode cX8_isLong 14 = .ok (.iaload, 1) := by decide +kernel
theorem dX8_isLong_15 : decode cX8_isLong 15 = .ok (.iconst 4, 1) := by decide +kernel
theorem dX8_isLong_16 : decode cX8_isLong 16 = .ok (.if_icmp .ne 30, 3) := by decide +kernel
theorem dX8_isLong_19 : decode cX8_isLong 19 = .ok (.aload_n 0, 1) := by decide +kernel
theorem dX8_isLong_20 : decode cX8_isLong 20 = .ok (.getfield 354, 3) := by decide +kernel
theorem dX8_isLong_23 : decode cX8_isLong 23 = .ok (.aload_n 0, 1) := by decide +kernel
theorem dX8_isLong_24 : decode cX8_isLong 24 = .ok (.getfield 72, 3) := by decide +kernel
theorem dX8_isLong_27 : decode cX8_isLong 27 = .ok (.iload_n 1, 1) := by decide +kernel
theorem dX8_isLong_28 : decode cX8_isLong 28 = .ok (.laload, 1) := by decide +kernel
theorem dX8_isLong_29 : decode cX8_isLong 29 = .ok (.lmul, 1) := by decide +kernel
theorem dX8_isLong_30 : decode cX8_isLong 30 = .ok (.aload_n 0, 1) := by decide +kernel
theorem dX8_isLong_31 : decode cX8_isLong 31 = .ok (.getfield 75, 3) := by decide +kernel
theorem dX8_isLong_34 : decode cX8_isLong 34 = .ok (.iload_n 1, 1) := by decide +kernel
theorem dX8_isLong_35 : decode cX8_isLong 35 = .ok (.laload, 1) := by decide +kernel
theorem dX8_isLong_36 : decode cX8_isLong 36 = .ok (.lload_n 2, 1) := by decide +kernel
theorem dX8_isLong_37 : decode cX8_isLong 37 = .ok (.lmul, 1) := by decide +kernel
theorem dX8_isLong_38 : decode cX8_isLong 38 = .ok (.lcmp, 1) := by decide +kernel
theorem dX8_isLong_39 : decode cX8_isLong 39 = .ok (.ifCond .le 7, 3) := by decide +kernel
theorem dX8_isLong_42 : decode cX8_isLong 42 = .ok (.iconst 1, 1) := by decide +kernel
theorem dX8_isLong_43 : decode cX8_isLong 43 = .ok (.goto 4, 3) := by decide +kernel
theorem dX8_isLong_46 : decode cX8_isLong 46 = .ok (.iconst 0, 1) := by decide +kernel
theorem dX8_isLong_47 : decode cX8_isLong 47 = .ok (.ireturn, 1) := by decide +kernel
theorem dX8_mosts_0 : decode cX8_mosts 0 = .ok (.aload_n 0, 1) := by decide +kernel
theorem dX8_mosts_1 : decode cX8_mosts 1 = .ok (.iload_n 1, 1) := by decide +kernel
theorem dX8_mosts_2 : decode cX8_mosts 2 = .ok (.invokevirtual 370, 3) := by decide +kernel
theorem dX8_mosts_5 : decode cX8_mosts 5 = .ok (.lstore_n 2, 1) := by decide +kernel
theorem dX8_mosts_6 : decode cX8_mosts 6 = .ok (.lconst 0, 1) := by decide +kernel
theorem dX8_mosts_7 : decode cX8_mosts 7 = .ok (.lstore 4, 2) := by decide +kernel
theorem dX8_mosts_9 : decode cX8_mosts 9 = .ok (.iconst 0, 1) := by decide +kernel
theorem dX8_mosts_10 : decode cX8_mosts 10 = .ok (.istore 6, 2) := by decide +kernel
theorem dX8_mosts_12 : decode cX8_mosts 12 = .ok (.iload 6, 2) := by decide +kernel
theorem dX8_mosts_14 : decode cX8_mosts 14 = .ok (.iload_n 1, 1) := by decide +kernel
theorem dX8_mosts_15 : decode cX8_mosts 15 = .ok (.if_icmp .ge 31, 3) := by decide +kernel
theorem dX8_mosts_18 : decode cX8_mosts 18 = .ok (.aload_n 0, 1) := by decide +kernel
theorem dX8_mosts_19 : decode cX8_mosts 19 = .ok (.iload 6, 2) := by decide +kernel
theorem dX8_mosts_21 : decode cX8_mosts 21 = .ok (.lload_n 2, 1) := by decide +kernel
theorem dX8_mosts_22 : decode cX8_mosts 22 = .ok (.invokevirtual 380, 3) := by decide +kernel
theorem dX8_mosts_25 : decode cX8_mosts 25 = .ok (.ifCond .eq 15, 3) := by decide +kernel
theorem dX8_mosts_28 : decode cX8_mosts 28 = .ok (.lload 4, 2) := by decide +kernel
theorem dX8_mosts_30 : decode cX8_mosts 30 = .ok (.aload_n 0, 1) := by decide +kernel
theorem dX8_mosts_31 : decode cX8_mosts 31 = .ok (.getfield 75, 3) := by decide +kernel
theorem dX8_mosts_34 : decode cX8_mosts 34 = .ok (.iload 6, 2) := by decide +kernel
theorem dX8_mosts_36 : decode cX8_mosts 36 = .ok (.laload, 1) := by decide +kernel
theorem dX8_mosts_37 : decode cX8_mosts 37 = .ok (.ladd, 1) := by decide +kernel
theorem dX8_mosts_38 : decode cX8_mosts 38 = .ok (.lstore 4, 2) := by decide +kernel
theorem dX8_mosts_40 : decode cX8_mosts 40 = .ok (.iinc 6 1, 3) := by decide +kernel
theorem dX8_mosts_43 : decode cX8_mosts 43 = .ok (.goto (-31), 3) := by decide +kernel
theorem dX8_mosts_46 : decode cX8_mosts 46 = .ok (.lload 4, 2) := by decide +kernel
theorem dX8_mosts_48 : decode cX8_mosts 48 = .ok (.lconst 0, 1) := by decide +kernel
theorem dX8_mosts_49 : decode cX8_mosts 49 = .ok (.lcmp, 1) := by decide +kernel
theorem dX8_mosts_50 : decode cX8_mosts 50 = .ok (.ifCond .ne 6, 3) := by decide +kernel
theorem dX8_mosts_53 : decode cX8_mosts 53 = .ok (.goto 124, 3) := by decide +kernel
theorem dX8_mosts_56 : decode cX8_mosts 56 = .ok (.aload_n 0, 1) := by decide +kernel
theorem dX8_mosts_57 : decode cX8_mosts 57 = .ok (.dup, 1) := by decide +kernel
theorem dX8_mosts_58 : decode cX8_mosts 58 = .ok (.getfield 332, 3) := by decide +kernel
theorem dX8_mosts_61 : decode cX8_mosts 61 = .ok (.iconst 1, 1) := by decide +kernel
theorem dX8_mosts_62 : decode cX8_mosts 62 = .ok (.iadd, 1) := by decide +kernel
theorem dX8_mosts_63 : decode cX8_mosts 63 = .ok (.putfield 332, 3) := by decide +kernel
theorem dX8_mosts_66 : decode cX8_mosts 66 = .ok (.iconst 0, 1) := by decide +kernel
theorem dX8_mosts_67 : decode cX8_mosts 67 = .ok (.istore 6, 2) := by decide +kernel
theorem dX8_mosts_69 : decode cX8_mosts 69 = .ok (.iload 6, 2) := by decide +kernel
theorem dX8_mosts_71 : decode cX8_mosts 71 = .ok (.iload_n 1, 1) := by decide +kernel
theorem dX8_mosts_72 : decode cX8_mosts 72 = .ok (.if_icmp .ge 44, 3) := by decide +kernel
theorem dX8_mosts_75 : decode cX8_mosts 75 = .ok (.aload_n 0, 1) := by decide +kernel
theorem dX8_mosts_76 : decode cX8_mosts 76 = .ok (.iload 6, 2) := by decide +kernel
theorem dX8_mosts_78 : decode cX8_mosts 78 = .ok (.lload_n 2, 1) := by decide +kernel
theorem dX8_mosts_79 : decode cX8_mosts 79 = .ok (.invokevirtual 380, 3) := by decide +kernel
theorem dX8_mosts_82 : decode cX8_mosts 82 = .ok (.ifCond .ne 6, 3) := by decide +kernel
theorem dX8_mosts_85 : decode cX8_mosts 85 = .ok (.goto 25, 3) := by decide +kernel
theorem dX8_mosts_88 : decode cX8_mosts 88 = .ok (.aload_n 0, 1) := by decide +kernel
theorem dX8_mosts_89 : decode cX8_mosts 89 = .ok (.getfield 81, 3) := by decide +kernel
theorem dX8_mosts_92 : decode cX8_mosts 92 = .ok (.iload 6, 2) := by decide +kernel
theorem dX8_mosts_94 : decode cX8_mosts 94 = .ok (.iconst 4, 1) := by decide +kernel
theorem dX8_mosts_95 : decode cX8_mosts 95 = .ok (.iastore, 1) := by decide +kernel
theorem dX8_mosts_96 : decode cX8_mosts 96 = .ok (.aload_n 0, 1) := by decide +kernel
theorem dX8_mosts_97 : decode cX8_mosts 97 = .ok (.getfield 65, 3) := by decide +kernel
theorem dX8_mosts_100 : decode cX8_mosts 100 = .ok (.iload 6, 2) := by decide +kernel
theorem dX8_mosts_102 : decode cX8_mosts 102 = .ok (.aload_n 0, 1) := by decide +kernel
theorem dX8_mosts_103 : decode cX8_mosts 103 = .ok (.getfield 75, 3) := by decide +kernel
theorem dX8_mosts_106 : decode cX8_mosts 106 = .ok (.iload 6, 2) := by decide +kernel
theorem dX8_mosts_108 : decode cX8_mosts 108 = .ok (.laload, 1) := by decide +kernel
theorem dX8_mosts_109 : decode cX8_mosts 109 = .ok (.lastore, 1) := by decide +kernel
theorem dX8_mosts_110 : decode cX8_mosts 110 = .ok (.iinc 6 1, 3) := by decide +kernel
theorem dX8_mosts_113 : decode cX8_mosts 113 = .ok (.goto (-44), 3) := by decide +kernel
theorem dX8_mosts_116 : decode cX8_mosts 116 = .ok (.iconst 0, 1) := by decide +kernel
theorem dX8_mosts_117 : decode cX8_mosts 117 = .ok (.istore 6, 2) := by decide +kernel
theorem dX8_mosts_119 : decode cX8_mosts 119 = .ok (.iload 6, 2) := by decide +kernel
theorem dX8_mosts_121 : decode cX8_mosts 121 = .ok (.iload_n 1, 1) := by decide +kernel
theorem dX8_mosts_122 : decode cX8_mosts 122 = .ok (.if_icmp .ge 28, 3) := by decide +kernel
theorem dX8_mosts_125 : decode cX8_mosts 125 = .ok (.aload_n 0, 1) := by decide +kernel
theorem dX8_mosts_126 : decode cX8_mosts 126 = .ok (.getfield 81, 3) := by decide +kernel
theorem dX8_mosts_129 : decode cX8_mosts 129 = .ok (.iload 6, 2) := by decide +kernel
theorem dX8_mosts_131 : decode cX8_mosts 131 = .ok (.iaload, 1) := by decide +kernel
theorem dX8_mosts_132 : decode cX8_mosts 132 = .ok (.iconst 4, 1) := by decide +kernel
theorem dX8_mosts_133 : decode cX8_mosts 133 = .ok (.if_icmp .ne 11, 3) := by decide +kernel
theorem dX8_mosts_136 : decode cX8_mosts 136 = .ok (.aload_n 0, 1) := by decide +kernel
theorem dX8_mosts_137 : decode cX8_mosts 137 = .ok (.getfield 84, 3) := by decide +kernel
theorem dX8_mosts_140 : decode cX8_mosts 140 = .ok (.iload 6, 2) := by decide +kernel
theorem dX8_mosts_142 : decode cX8_mosts 142 = .ok (.iconst 0, 1) := by decide +kernel
theorem dX8_mosts_143 : decode cX8_mosts 143 = .ok (.bastore, 1) := by decide +kernel
theorem dX8_mosts_144 : decode cX8_mosts 144 = .ok (.iinc 6 1, 3) := by decide +kernel
theorem dX8_mosts_147 : decode cX8_mosts 147 = .ok (.goto (-28), 3) := by decide +kernel
theorem dX8_mosts_150 : decode cX8_mosts 150 = .ok (.aload_n 0, 1) := by decide +kernel
theorem dX8_mosts_151 : decode cX8_mosts 151 = .ok (.dup, 1) := by decide +kernel
theorem dX8_mosts_152 : decode cX8_mosts 152 = .ok (.getfield 354, 3) := by decide +kernel
theorem dX8_mosts_155 : decode cX8_mosts 155 = .ok (.lload 4, 2) := by decide +kernel
theorem dX8_mosts_157 : decode cX8_mosts 157 = .ok (.lsub, 1) := by decide +kernel
theorem dX8_mosts_158 : decode cX8_mosts 158 = .ok (.putfield 354, 3) := by decide +kernel
theorem dX8_mosts_161 : decode cX8_mosts 161 = .ok (.aload_n 0, 1) := by decide +kernel
theorem dX8_mosts_162 : decode cX8_mosts 162 = .ok (.iload_n 1, 1) := by decide +kernel
theorem dX8_mosts_163 : decode cX8_mosts 163 = .ok (.invokevirtual 370, 3) := by decide +kernel
theorem dX8_mosts_166 : decode cX8_mosts 166 = .ok (.lconst 0, 1) := by decide +kernel
theorem dX8_mosts_167 : decode cX8_mosts 167 = .ok (.lcmp, 1) := by decide +kernel
theorem dX8_mosts_168 : decode cX8_mosts 168 = .ok (.ifCond .ne 6, 3) := by decide +kernel
theorem dX8_mosts_171 : decode cX8_mosts 171 = .ok (.goto 6, 3) := by decide +kernel
theorem dX8_mosts_174 : decode cX8_mosts 174 = .ok (.goto (-174), 3) := by decide +kernel
theorem dX8_mosts_177 : decode cX8_mosts 177 = .ok (.aload_n 0, 1) := by decide +kernel
theorem dX8_mosts_178 : decode cX8_mosts 178 = .ok (.iload_n 1, 1) := by decide +kernel
theorem dX8_mosts_179 : decode cX8_mosts 179 = .ok (.invokevirtual 370, 3) := by decide +kernel
theorem dX8_mosts_182 : decode cX8_mosts 182 = .ok (.lstore_n 2, 1) := by decide +kernel
theorem dX8_mosts_183 : decode cX8_mosts 183 = .ok (.lload_n 2, 1) := by decide +kernel
theorem dX8_mosts_184 : decode cX8_mosts 184 = .ok (.lconst 0, 1) := by decide +kernel
theorem dX8_mosts_185 : decode cX8_mosts 185 = .ok (.lcmp, 1) := by decide +kernel
theorem dX8_mosts_186 : decode cX8_mosts 186 = .ok (.ifCond .ne 7, 3) := by decide +kernel
theorem dX8_mosts_189 : decode cX8_mosts 189 = .ok (.iconst 1, 1) := by decide +kernel
theorem dX8_mosts_190 : decode cX8_mosts 190 = .ok (.goto 4, 3) := by decide +kernel
theorem dX8_mosts_193 : decode cX8_mosts 193 = .ok (.iconst 0, 1) := by decide +kernel
theorem dX8_mosts_194 : decode cX8_mosts 194 = .ok (.istore 4, 2) := by decide +kernel
theorem dX8_mosts_196 : decode cX8_mosts 196 = .ok (.iconst 0, 1) := by decide +kernel
theorem dX8_mosts_197 : decode cX8_mosts 197 = .ok (.istore 5, 2) := by decide +kernel
theorem dX8_mosts_199 : decode cX8_mosts 199 = .ok (.iload 5, 2) := by decide +kernel
theorem dX8_mosts_201 : decode cX8_mosts 201 = .ok (.iload_n 1, 1) := by decide +kernel
theorem dX8_mosts_202 : decode cX8_mosts 202 = .ok (.if_icmp .ge 35, 3) := by decide +kernel
theorem dX8_mosts_205 : decode cX8_mosts 205 = .ok (.iload 4, 2) := by decide +kernel
theorem dX8_mosts_207 : decode cX8_mosts 207 = .ok (.ifCond .eq 24, 3) := by decide +kernel
theorem dX8_mosts_210 : decode cX8_mosts 210 = .ok (.aload_n 0, 1) := by decide +kernel
theorem dX8_mosts_211 : decode cX8_mosts 211 = .ok (.getfield 81, 3) := by decide +kernel
theorem dX8_mosts_214 : decode cX8_mosts 214 = .ok (.iload 5, 2) := by decide +kernel
theorem dX8_mosts_216 : decode cX8_mosts 216 = .ok (.iaload, 1) := by decide +kernel
theorem dX8_mosts_217 : decode cX8_mosts 217 = .ok (.iconst 4, 1) := by decide +kernel
theorem dX8_mosts_218 : decode cX8_mosts 218 = .ok (.if_icmp .ne 13, 3) := by decide +kernel
theorem dX8_mosts_221 : decode cX8_mosts 221 = .ok (.lload_n 2, 1) := by decide +kernel
theorem dX8_mosts_222 : decode cX8_mosts 222 = .ok (.aload_n 0, 1) := by decide +kernel
theorem dX8_mosts_223 : decode cX8_mosts 223 = .ok (.getfield 72, 3) := by decide +kernel
theorem dX8_mosts_226 : decode cX8_mosts 226 = .ok (.iload 5, 2) := by decide +kernel
theorem dX8_mosts_228 : decode cX8_mosts 228 = .ok (.laload, 1) := by decide +kernel
theorem dX8_mosts_229 : decode cX8_mosts 229 = .ok (.ladd, 1) := by decide +kernel
theorem dX8_mosts_230 : decode cX8_mosts 230 = .ok (.lstore_n 2, 1) := by decide +kernel
theorem dX8_mosts_231 : decode cX8_mosts 231 = .ok (.iinc 5 1, 3) := by decide +kernel
theorem dX8_mosts_234 : decode cX8_mosts 234 = .ok (.goto (-35), 3) := by decide +kernel
theorem dX8_mosts_237 : decode cX8_mosts 237 = .ok (.aload_n 0, 1) := by decide +kernel
theorem dX8_mosts_238 : decode cX8_mosts 238 = .ok (.lload_n 2, 1) := by decide +kernel
theorem dX8_mosts_239 : decode cX8_mosts 239 = .ok (.putfield 338, 3) := by decide +kernel
theorem dX8_mosts_242 : decode cX8_mosts 242 = .ok (.iconst 0, 1) := by decide +kernel
theorem dX8_mosts_243 : decode cX8_mosts 243 = .ok (.istore 5, 2) := by decide +kernel
theorem dX8_mosts_245 : decode cX8_mosts 245 = .ok (.iload 5, 2) := by decide +kernel
theorem dX8_mosts_247 : decode cX8_mosts 247 = .ok (.iload_n 1, 1) := by decide +kernel
theorem dX8_mosts_248 : decode cX8_mosts 248 = .ok (.if_icmp .ge 61, 3) := by decide +kernel
theorem dX8_mosts_251 : decode cX8_mosts 251 = .ok (.aload_n 0, 1) := by decide +kernel
theorem dX8_mosts_252 : decode cX8_mosts 252 = .ok (.getfield 69, 3) := by decide +kernel
theorem dX8_mosts_255 : decode cX8_mosts 255 = .ok (.iload 5, 2) := by decide +kernel
theorem dX8_mosts_257 : decode cX8_mosts 257 = .ok (.iload 4, 2) := by decide +kernel
theorem dX8_mosts_259 : decode cX8_mosts 259 = .ok (.ifCond .eq 17, 3) := by decide +kernel
theorem dX8_mosts_262 : decode cX8_mosts 262 = .ok (.aload_n 0, 1) := by decide +kernel
theorem dX8_mosts_263 : decode cX8_mosts 263 = .ok (.getfield 81, 3) := by decide +kernel
theorem dX8_mosts_266 : decode cX8_mosts 266 = .ok (.iload 5, 2) := by decide +kernel
theorem dX8_mosts_268 : decode cX8_mosts 268 = .ok (.iaload, 1) := by decide +kernel
theorem dX8_mosts_269 : decode cX8_mosts 269 = .ok (.iconst 4, 1) := by decide +kernel
theorem dX8_mosts_270 : decode cX8_mosts 270 = .ok (.if_icmp .ne 31, 3) := by decide +kernel
theorem dX8_mosts_273 : decode cX8_mosts 273 = .ok (.goto 13, 3) := by decide +kernel
theorem dX8_mosts_276 : decode cX8_mosts 276 = .ok (.aload_n 0, 1) := by decide +kernel
theorem dX8_mosts_277 : decode cX8_mosts 277 = .ok (.getfield 84, 3) := by decide +kernel
theorem dX8_mosts_280 : decode cX8_mosts 280 = .ok (.iload 5, 2) := by decide +kernel
theorem dX8_mosts_282 : decode cX8_mosts 282 = .ok (.baload, 1) := by decide +kernel
theorem dX8_mosts_283 : decode cX8_mosts 283 = .ok (.ifCond .eq 18, 3) := by decide +kernel
theorem dX8_mosts_286 : decode cX8_mosts 286 = .ok (.aload_n 0, 1) := by decide +kernel
theorem dX8_mosts_287 : decode cX8_mosts 287 = .ok (.getfield 354, 3) := by decide +kernel
theorem dX8_mosts_290 : decode cX8_mosts 290 = .ok (.aload_n 0, 1) := by decide +kernel
theorem dX8_mosts_291 : decode cX8_mosts 291 = .ok (.getfield 72, 3) := by decide +kernel
theorem dX8_mosts_294 : decode cX8_mosts 294 = .ok (.iload 5, 2) := by decide +kernel
theorem dX8_mosts_296 : decode cX8_mosts 296 = .ok (.laload, 1) := by decide +kernel
theorem dX8_mosts_297 : decode cX8_mosts 297 = .ok (.lmul, 1) := by decide +kernel
theorem dX8_mosts_298 : decode cX8_mosts 298 = .ok (.goto 4, 3) := by decide +kernel
theorem dX8_mosts_301 : decode cX8_mosts 301 = .ok (.lconst 0, 1) := by decide +kernel
theorem dX8_mosts_302 : decode cX8_mosts 302 = .ok (.lastore, 1) := by decide +kernel
theorem dX8_mosts_303 : decode cX8_mosts 303 = .ok (.iinc 5 1, 3) := by decide +kernel
theorem dX8_mosts_306 : decode cX8_mosts 306 = .ok (.goto (-61), 3) := by decide +kernel
theorem dX8_mosts_309 : decode cX8_mosts 309 = .ok (.return_, 1) := by decide +kernel
theorem dX8_cents_0 : decode cX8_cents 0 = .ok (.lload_n 2, 1) := by decide +kernel
theorem dX8_cents_1 : decode cX8_cents 1 = .ok (.lstore 4, 2) := by decide +kernel
theorem dX8_cents_3 : decode cX8_cents 3 = .ok (.iconst 0, 1) := by decide +kernel
theorem dX8_cents_4 : decode cX8_cents 4 = .ok (.istore 6, 2) := by decide +kernel
theorem dX8_cents_6 : decode cX8_cents 6 = .ok (.iload 6, 2) := by decide +kernel
theorem dX8_cents_8 : decode cX8_cents 8 = .ok (.iload_n 1, 1) := by decide +kernel
theorem dX8_cents_9 : decode cX8_cents 9 = .ok (.if_icmp .ge 49, 3) := by decide +kernel
theorem dX8_cents_12 : decode cX8_cents 12 = .ok (.lload 4, 2) := by decide +kernel
theorem dX8_cents_14 : decode cX8_cents 14 = .ok (.aload_n 0, 1) := by decide +kernel
theorem dX8_cents_15 : decode cX8_cents 15 = .ok (.getfield 81, 3) := by decide +kernel
theorem dX8_cents_18 : decode cX8_cents 18 = .ok (.iload 6, 2) := by decide +kernel
theorem dX8_cents_20 : decode cX8_cents 20 = .ok (.iaload, 1) := by decide +kernel
theorem dX8_cents_21 : decode cX8_cents 21 = .ok (.iconst 5, 1) := by decide +kernel
theorem dX8_cents_22 : decode cX8_cents 22 = .ok (.if_icmp .ne 7, 3) := by decide +kernel
theorem dX8_cents_25 : decode cX8_cents 25 = .ok (.lconst 0, 1) := by decide +kernel
theorem dX8_cents_26 : decode cX8_cents 26 = .ok (.goto 23, 3) := by decide +kernel
theorem dX8_cents_29 : decode cX8_cents 29 = .ok (.aload_n 0, 1) := by decide +kernel
theorem dX8_cents_30 : decode cX8_cents 30 = .ok (.getfield 65, 3) := by decide +kernel
theorem dX8_cents_33 : decode cX8_cents 33 = .ok (.iload 6, 2) := by decide +kernel
theorem dX8_cents_35 : decode cX8_cents 35 = .ok (.laload, 1) := by decide +kernel
theorem dX8_cents_36 : decode cX8_cents 36 = .ok (.aload_n 0, 1) := by decide +kernel
theorem dX8_cents_37 : decode cX8_cents 37 = .ok (.getfield 69, 3) := by decide +kernel
theorem dX8_cents_40 : decode cX8_cents 40 = .ok (.iload 6, 2) := by decide +kernel
theorem dX8_cents_42 : decode cX8_cents 42 = .ok (.laload, 1) := by decide +kernel
theorem dX8_cents_43 : decode cX8_cents 43 = .ok (.aload_n 0, 1) := by decide +kernel
theorem dX8_cents_44 : decode cX8_cents 44 = .ok (.getfield 338, 3) := by decide +kernel
theorem dX8_cents_47 : decode cX8_cents 47 = .ok (.ldiv, 1) := by decide +kernel
theorem dX8_cents_48 : decode cX8_cents 48 = .ok (.ladd, 1) := by decide +kernel
theorem dX8_cents_49 : decode cX8_cents 49 = .ok (.lsub, 1) := by decide +kernel
theorem dX8_cents_50 : decode cX8_cents 50 = .ok (.lstore 4, 2) := by decide +kernel
theorem dX8_cents_52 : decode cX8_cents 52 = .ok (.iinc 6 1, 3) := by decide +kernel
theorem dX8_cents_55 : decode cX8_cents 55 = .ok (.goto (-49), 3) := by decide +kernel
theorem dX8_cents_58 : decode cX8_cents 58 = .ok (.aload_n 0, 1) := by decide +kernel
theorem dX8_cents_59 : decode cX8_cents 59 = .ok (.lload 4, 2) := by decide +kernel
theorem dX8_cents_61 : decode cX8_cents 61 = .ok (.l2i, 1) := by decide +kernel
theorem dX8_cents_62 : decode cX8_cents 62 = .ok (.putfield 335, 3) := by decide +kernel
theorem dX8_cents_65 : decode cX8_cents 65 = .ok (.iconst 0, 1) := by decide +kernel
theorem dX8_cents_66 : decode cX8_cents 66 = .ok (.istore 6, 2) := by decide +kernel
theorem dX8_cents_68 : decode cX8_cents 68 = .ok (.iload 6, 2) := by decide +kernel
theorem dX8_cents_70 : decode cX8_cents 70 = .ok (.iload_n 1, 1) := by decide +kernel
theorem dX8_cents_71 : decode cX8_cents 71 = .ok (.if_icmp .ge 128, 3) := by decide +kernel
theorem dX8_cents_74 : decode cX8_cents 74 = .ok (.iconst 0, 1) := by decide +kernel
theorem dX8_cents_75 : decode cX8_cents 75 = .ok (.istore 7, 2) := by decide +kernel
theorem dX8_cents_77 : decode cX8_cents 77 = .ok (.iconst 0, 1) := by decide +kernel
theorem dX8_cents_78 : decode cX8_cents 78 = .ok (.istore 8, 2) := by decide +kernel
theorem dX8_cents_80 : decode cX8_cents 80 = .ok (.iload 8, 2) := by decide +kernel
theorem dX8_cents_82 : decode cX8_cents 82 = .ok (.iload_n 1, 1) := by decide +kernel
theorem dX8_cents_83 : decode cX8_cents 83 = .ok (.if_icmp .ge 67, 3) := by decide +kernel
theorem dX8_cents_86 : decode cX8_cents 86 = .ok (.aload_n 0, 1) := by decide +kernel
theorem dX8_cents_87 : decode cX8_cents 87 = .ok (.getfield 69, 3) := by decide +kernel
theorem dX8_cents_90 : decode cX8_cents 90 = .ok (.iload 8, 2) := by decide +kernel
theorem dX8_cents_92 : decode cX8_cents 92 = .ok (.laload, 1) := by decide +kernel
theorem dX8_cents_93 : decode cX8_cents 93 = .ok (.aload_n 0, 1) := by decide +kernel
theorem dX8_cents_94 : decode cX8_cents 94 = .ok (.getfield 338, 3) := by decide +kernel
theorem dX8_cents_97 : decode cX8_cents 97 = .ok (.lrem, 1) := by decide +kernel
theorem dX8_cents_98 : decode cX8_cents 98 = .ok (.aload_n 0, 1) := by decide +kernel
theorem dX8_cents_99 : decode cX8_cents 99 = .ok (.getfield 69, 3) := by decide +kernel
theorem dX8_cents_102 : decode cX8_cents 102 = .ok (.iload 6, 2) := by decide +kernel
theorem dX8_cents_104 : decode cX8_cents 104 = .ok (.laload, 1) := by decide +kernel
theorem dX8_cents_105 : decode cX8_cents 105 = .ok (.aload_n 0, 1) := by decide +kernel
theorem dX8_cents_106 : decode cX8_cents 106 = .ok (.getfield 338, 3) := by decide +kernel
theorem dX8_cents_109 : decode cX8_cents 109 = .ok (.lrem, 1) := by decide +kernel
theorem dX8_cents_110 : decode cX8_cents 110 = .ok (.lsub, 1) := by decide +kernel
theorem dX8_cents_111 : decode cX8_cents 111 = .ok (.lstore 9, 2) := by decide +kernel
theorem dX8_cents_113 : decode cX8_cents 113 = .ok (.iload 7, 2) := by decide +kernel
theorem dX8_cents_115 : decode cX8_cents 115 = .ok (.lload 9, 2) := by decide +kernel
theorem dX8_cents_117 : decode cX8_cents 117 = .ok (.lconst 0, 1) := by decide +kernel
theorem dX8_cents_118 : decode cX8_cents 118 = .ok (.lcmp, 1) := by decide +kernel
theorem dX8_cents_119 : decode cX8_cents 119 = .ok (.ifCond .gt 17, 3) := by decide +kernel
theorem dX8_cents_122 : decode cX8_cents 122 = .ok (.lload 9, 2) := by decide +kernel
theorem dX8_cents_124 : decode cX8_cents 124 = .ok (.lconst 0, 1) := by decide +kernel
theorem dX8_cents_125 : decode cX8_cents 125 = .ok (.lcmp, 1) := by decide +kernel
theorem dX8_cents_126 : decode cX8_cents 126 = .ok (.ifCond .ne 14, 3) := by decide +kernel
theorem dX8_cents_129 : decode cX8_cents 129 = .ok (.iload 8, 2) := by decide +kernel
theorem dX8_cents_131 : decode cX8_cents 131 = .ok (.iload 6, 2) := by decide +kernel
theorem dX8_cents_133 : decode cX8_cents 133 = .ok (.if_icmp .ge 7, 3) := by decide +kernel
theorem dX8_cents_136 : decode cX8_cents 136 = .ok (.iconst 1, 1) := by decide +kernel
theorem dX8_cents_137 : decode cX8_cents 137 = .ok (.goto 4, 3) := by decide +kernel
theorem dX8_cents_140 : decode cX8_cents 140 = .ok (.iconst 0, 1) := by decide +kernel
theorem dX8_cents_141 : decode cX8_cents 141 = .ok (.iadd, 1) := by decide +kernel
theorem dX8_cents_142 : decode cX8_cents 142 = .ok (.istore 7, 2) := by decide +kernel
theorem dX8_cents_144 : decode cX8_cents 144 = .ok (.iinc 8 1, 3) := by decide +kernel
theorem dX8_cents_147 : decode cX8_cents 147 = .ok (.goto (-67), 3) := by decide +kernel
theorem dX8_cents_150 : decode cX8_cents 150 = .ok (.aload_n 0, 1) := by decide +kernel
theorem dX8_cents_151 : decode cX8_cents 151 = .ok (.getfield 88, 3) := by decide +kernel
theorem dX8_cents_154 : decode cX8_cents 154 = .ok (.iload 6, 2) := by decide +kernel
theorem dX8_cents_156 : decode cX8_cents 156 = .ok (.aload_n 0, 1) := by decide +kernel
theorem dX8_cents_157 : decode cX8_cents 157 = .ok (.getfield 65, 3) := by decide +kernel
theorem dX8_cents_160 : decode cX8_cents 160 = .ok (.iload 6, 2) := by decide +kernel
theorem dX8_cents_162 : decode cX8_cents 162 = .ok (.laload, 1) := by decide +kernel
theorem dX8_cents_163 : decode cX8_cents 163 = .ok (.aload_n 0, 1) := by decide +kernel
theorem dX8_cents_164 : decode cX8_cents 164 = .ok (.getfield 69, 3) := by decide +kernel
theorem dX8_cents_167 : decode cX8_cents 167 = .ok (.iload 6, 2) := by decide +kernel
theorem dX8_cents_169 : decode cX8_cents 169 = .ok (.laload, 1) := by decide +kernel
theorem dX8_cents_170 : decode cX8_cents 170 = .ok (.aload_n 0, 1) := by decide +kernel
theorem dX8_cents_171 : decode cX8_cents 171 = .ok (.getfield 338, 3) := by decide +kernel
theorem dX8_cents_174 : decode cX8_cents 174 = .ok (.ldiv, 1) := by decide +kernel
theorem dX8_cents_175 : decode cX8_cents 175 = .ok (.ladd, 1) := by decide +kernel
theorem dX8_cents_176 : decode cX8_cents 176 = .ok (.iload 7, 2) := by decide +kernel
theorem dX8_cents_178 : decode cX8_cents 178 = .ok (.i2l, 1) := by decide +kernel
theorem dX8_cents_179 : decode cX8_cents 179 = .ok (.lload 4, 2) := by decide +kernel
theorem dX8_cents_181 : decode cX8_cents 181 = .ok (.lcmp, 1) := by decide +kernel
theorem dX8_cents_182 : decode cX8_cents 182 = .ok (.ifCond .ge 7, 3) := by decide +kernel
theorem dX8_cents_185 : decode cX8_cents 185 = .ok (.lconst 1, 1) := by decide +kernel
theorem dX8_cents_186 : decode cX8_cents 186 = .ok (.goto 4, 3) := by decide +kernel
theorem dX8_cents_189 : decode cX8_cents 189 = .ok (.lconst 0, 1) := by decide +kernel
theorem dX8_cents_190 : decode cX8_cents 190 = .ok (.ladd, 1) := by decide +kernel
theorem dX8_cents_191 : decode cX8_cents 191 = .ok (.l2i, 1) := by decide +kernel
theorem dX8_cents_192 : decode cX8_cents 192 = .ok (.iastore, 1) := by decide +kernel
theorem dX8_cents_193 : decode cX8_cents 193 = .ok (.iinc 6 1, 3) := by decide +kernel
theorem dX8_cents_196 : decode cX8_cents 196 = .ok (.goto (-128), 3) := by decide +kernel
theorem dX8_cents_199 : decode cX8_cents 199 = .ok (.return_, 1) := by decide +kernel
theorem dX8_prorates__0 : decode cX8_prorates_ 0 = .ok (.aload_n 0, 1) := by decide +kernel
theorem dX8_prorates__1 : decode cX8_prorates_ 1 = .ok (.iload_n 1, 1) := by decide +kernel
theorem dX8_prorates__2 : decode cX8_prorates_ 2 = .ok (.aload_n 0, 1) := by decide +kernel
theorem dX8_prorates__3 : decode cX8_prorates_ 3 = .ok (.getfield 25, 3) := by decide +kernel
theorem dX8_prorates__6 : decode cX8_prorates_ 6 = .ok (.iconst 4, 1) := by decide +kernel
theorem dX8_prorates__7 : decode cX8_prorates_ 7 = .ok (.iload_n 1, 1) := by decide +kernel
theorem dX8_prorates__8 : decode cX8_prorates_ 8 = .ok (.imul, 1) := by decide +kernel
theorem dX8_prorates__9 : decode cX8_prorates_ 9 = .ok (.iconst 1, 1) := by decide +kernel
theorem dX8_prorates__10 : decode cX8_prorates_ 10 = .ok (.iadd, 1) := by decide +kernel
theorem dX8_prorates__11 : decode cX8_prorates_ 11 = .ok (.iaload, 1) := by decide +kernel
theorem dX8_prorates__12 : decode cX8_prorates_ 12 = .ok (.bipush (-2), 2) := by decide +kernel
theorem dX8_prorates__14 : decode cX8_prorates_ 14 = .ok (.iconst 0, 1) := by decide +kernel
theorem dX8_prorates__15 : decode cX8_prorates_ 15 = .ok (.invokevirtual 383, 3) := by decide +kernel
theorem dX8_prorates__18 : decode cX8_prorates_ 18 = .ok (.return_, 1) := by decide +kernel
theorem dX8_proviso_0 : decode cX8_proviso 0 = .ok (.aload_n 0, 1) := by decide +kernel
theorem dX8_proviso_1 : decode cX8_proviso 1 = .ok (.iconst 0, 1) := by decide +kernel
theorem dX8_proviso_2 : decode cX8_proviso 2 = .ok (.putfield 112, 3) := by decide +kernel
theorem dX8_proviso_5 : decode cX8_proviso 5 = .ok (.aload_n 0, 1) := by decide +kernel
theorem dX8_proviso_6 : decode cX8_proviso 6 = .ok (.iload_n 1, 1) := by decide +kernel
theorem dX8_proviso_7 : decode cX8_proviso 7 = .ok (.invokevirtual 387, 3) := by decide +kernel
theorem dX8_proviso_10 : decode cX8_proviso 10 = .ok (.ifCond .ne 10, 3) := by decide +kernel
theorem dX8_proviso_13 : decode cX8_proviso 13 = .ok (.aload_n 0, 1) := by decide +kernel
theorem dX8_proviso_14 : decode cX8_proviso 14 = .ok (.iconst 1, 1) := by decide +kernel
theorem dX8_proviso_15 : decode cX8_proviso 15 = .ok (.putfield 112, 3) := by decide +kernel
theorem dX8_proviso_18 : decode cX8_proviso 18 = .ok (.iconst 0, 1) := by decide +kernel
theorem dX8_proviso_19 : decode cX8_proviso 19 = .ok (.ireturn, 1) := by decide +kernel
theorem dX8_proviso_20 : decode cX8_proviso 20 = .ok (.iload_n 2, 1) := by decide +kernel
theorem dX8_proviso_21 : decode cX8_proviso 21 = .ok (.ifCond .lt 28, 3) := by decide +kernel
theorem dX8_proviso_24 : decode cX8_proviso 24 = .ok (.iload_n 2, 1) := by decide +kernel
theorem dX8_proviso_25 : decode cX8_proviso 25 = .ok (.iconst 5, 1) := by decide +kernel
theorem dX8_proviso_26 : decode cX8_proviso 26 = .ok (.if_icmp .gt 23, 3) := by decide +kernel
theorem dX8_proviso_29 : decode cX8_proviso 29 = .ok (.aload_n 0, 1) := by decide +kernel
theorem dX8_proviso_30 : decode cX8_proviso 30 = .ok (.getfield 19, 3) := by decide +kernel
theorem dX8_proviso_33 : decode cX8_proviso 33 = .ok (.bipush 6, 2) := by decide +kernel
theorem dX8_proviso_35 : decode cX8_proviso 35 = .ok (.iload_n 1, 1) := by decide +kernel
theorem dX8_proviso_36 : decode cX8_proviso 36 = .ok (.imul, 1) := by decide +kernel
theorem dX8_proviso_37 : decode cX8_proviso 37 = .ok (.iload_n 2, 1) := by decide +kernel
theorem dX8_proviso_38 : decode cX8_proviso 38 = .ok (.ifCond .ne 7, 3) := by decide +kernel
theorem dX8_proviso_41 : decode cX8_proviso 41 = .ok (.iconst 0, 1) := by decide +kernel
theorem dX8_proviso_42 : decode cX8_proviso 42 = .ok (.goto 4, 3) := by decide +kernel
theorem dX8_proviso_45 : decode cX8_proviso 45 = .ok (.iload_n 2, 1) := by decide +kernel
theorem dX8_proviso_46 : decode cX8_proviso 46 = .ok (.iadd, 1) := by decide +kernel
theorem dX8_proviso_47 : decode cX8_proviso 47 = .ok (.iaload, 1) := by decide +kernel
theorem dX8_proviso_48 : decode cX8_proviso 48 = .ok (.ireturn, 1) := by decide +kernel
theorem dX8_proviso_49 : decode cX8_proviso 49 = .ok (.iload_n 2, 1) := by decide +kernel
theorem dX8_proviso_50 : decode cX8_proviso 50 = .ok (.bipush 6, 2) := by decide +kernel
theorem dX8_proviso_52 : decode cX8_proviso 52 = .ok (.if_icmp .eq 10, 3) := by decide +kernel
theorem dX8_proviso_55 : decode cX8_proviso 55 = .ok (.aload_n 0, 1) := by decide +kernel
theorem dX8_proviso_56 : decode cX8_proviso 56 = .ok (.iconst 2, 1) := by decide +kernel
theorem dX8_proviso_57 : decode cX8_proviso 57 = .ok (.putfield 112, 3) := by decide +kernel
theorem dX8_proviso_60 : decode cX8_proviso 60 = .ok (.iconst 0, 1) := by decide +kernel
theorem dX8_proviso_61 : decode cX8_proviso 61 = .ok (.ireturn, 1) := by decide +kernel
theorem dX8_proviso_62 : decode cX8_proviso 62 = .ok (.iconst 0, 1) := by decide +kernel
theorem dX8_proviso_63 : decode cX8_proviso 63 = .ok (.istore_n 3, 1) := by decide +kernel
theorem dX8_proviso_64 : decode cX8_proviso 64 = .ok (.iconst 0, 1) := by decide +kernel
theorem dX8_proviso_65 : decode cX8_proviso 65 = .ok (.istore 4, 2) := by decide +kernel
theorem dX8_proviso_67 : decode cX8_proviso 67 = .ok (.iload 4, 2) := by decide +kernel
theorem dX8_proviso_69 : decode cX8_proviso 69 = .ok (.aload_n 0, 1) := by decide +kernel
theorem dX8_proviso_70 : decode cX8_proviso 70 = .ok (.getfield 192, 3) := by decide +kernel
theorem dX8_proviso_73 : decode cX8_proviso 73 = .ok (.if_icmp .ge 51, 3) := by decide +kernel
theorem dX8_proviso_76 : decode cX8_proviso 76 = .ok (.iconst 0, 1) := by decide +kernel
theorem dX8_proviso_77 : decode cX8_proviso 77 = .ok (.istore 5, 2) := by decide +kernel
theorem dX8_proviso_79 : decode cX8_proviso 79 = .ok (.iload 5, 2) := by decide +kernel
theorem dX8_proviso_81 : decode cX8_proviso 81 = .ok (.aload_n 0, 1) := by decide +kernel
theorem dX8_proviso_82 : decode cX8_proviso 82 = .ok (.iload 4, 2) := by decide +kernel
theorem dX8_proviso_84 : decode cX8_proviso 84 = .ok (.invokevirtual 301, 3) := by decide +kernel
theorem dX8_proviso_87 : decode cX8_proviso 87 = .ok (.if_icmp .ge 31, 3) := by decide +kernel
theorem dX8_proviso_90 : decode cX8_proviso 90 = .ok (.iload_n 3, 1) := by decide +kernel
theorem dX8_proviso_91 : decode cX8_proviso 91 = .ok (.aload_n 0, 1) := by decide +kernel
theorem dX8_proviso_92 : decode cX8_proviso 92 = .ok (.iload 4, 2) := by decide +kernel
theorem dX8_proviso_94 : decode cX8_proviso 94 = .ok (.iload 5, 2) := by decide +kernel
theorem dX8_proviso_96 : decode cX8_proviso 96 = .ok (.bipush (-2), 2) := by decide +kernel
theorem dX8_proviso_98 : decode cX8_proviso 98 = .ok (.invokevirtual 342, 3) := by decide +kernel
theorem dX8_proviso_101 : decode cX8_proviso 101 = .ok (.iload_n 1, 1) := by decide +kernel
theorem dX8_proviso_102 : decode cX8_proviso 102 = .ok (.if_icmp .ne 7, 3) := by decide +kernel
theorem dX8_proviso_105 : decode cX8_proviso 105 = .ok (.iconst 1, 1) := by decide +kernel
theorem dX8_proviso_106 : decode cX8_proviso 106 = .ok (.goto 4, 3) := by decide +kernel
theorem dX8_proviso_109 : decode cX8_proviso 109 = .ok (.iconst 0, 1) := by decide +kernel
theorem dX8_proviso_110 : decode cX8_proviso 110 = .ok (.iadd, 1) := by decide +kernel
theorem dX8_proviso_111 : decode cX8_proviso 111 = .ok (.istore_n 3, 1) := by decide +kernel
theorem dX8_proviso_112 : decode cX8_proviso 112 = .ok (.iinc 5 1, 3) := by decide +kernel
theorem dX8_proviso_115 : decode cX8_proviso 115 = .ok (.goto (-36), 3) := by decide +kernel
theorem dX8_proviso_118 : decode cX8_proviso 118 = .ok (.iinc 4 1, 3) := by decide +kernel
theorem dX8_proviso_121 : decode cX8_proviso 121 = .ok (.goto (-54), 3) := by decide +kernel
theorem dX8_proviso_124 : decode cX8_proviso 124 = .ok (.iload_n 3, 1) := by decide +kernel
theorem dX8_proviso_125 : decode cX8_proviso 125 = .ok (.ireturn, 1) := by decide +kernel
theorem dX8_flownOf_0 : decode cX8_flownOf 0 = .ok (.iconst 0, 1) := by decide +kernel
theorem dX8_flownOf_1 : decode cX8_flownOf 1 = .ok (.istore_n 2, 1) := by decide +kernel
theorem dX8_flownOf_2 : decode cX8_flownOf 2 = .ok (.iconst 0, 1) := by decide +kernel
theorem dX8_flownOf_3 : decode cX8_flownOf 3 = .ok (.istore_n 3, 1) := by decide +kernel
theorem dX8_flownOf_4 : decode cX8_flownOf 4 = .ok (.iload_n 3, 1) := by decide +kernel
theorem dX8_flownOf_5 : decode cX8_flownOf 5 = .ok (.aload_n 0, 1) := by decide +kernel
theorem dX8_flownOf_6 : decode cX8_flownOf 6 = .ok (.iload_n 1, 1) := by decide +kernel
theorem dX8_flownOf_7 : decode cX8_flownOf 7 = .ok (.invokevirtual 301, 3) := by decide +kernel
theorem dX8_flownOf_10 : decode cX8_flownOf 10 = .ok (.if_icmp .ge 26, 3) := by decide +kernel
theorem dX8_flownOf_13 : decode cX8_flownOf 13 = .ok (.iload_n 2, 1) := by decide +kernel
theorem dX8_flownOf_14 : decode cX8_flownOf 14 = .ok (.aload_n 0, 1) := by decide +kernel
theorem dX8_flownOf_15 : decode cX8_flownOf 15 = .ok (.iload_n 1, 1) := by decide +kernel
theorem dX8_flownOf_16 : decode cX8_flownOf 16 = .ok (.iload_n 3, 1) := by decide +kernel
theorem dX8_flownOf_17 : decode cX8_flownOf 17 = .ok (.invokevirtual 345, 3) := by decide +kernel
theorem dX8_flownOf_20 : decode cX8_flownOf 20 = .ok (.ifCond .eq 7, 3) := by decide +kernel
theorem dX8_flownOf_23 : decode cX8_flownOf 23 = .ok (.iconst 1, 1) := by decide +kernel
theorem dX8_flownOf_24 : decode cX8_flownOf 24 = .ok (.goto 4, 3) := by decide +kernel
theorem dX8_flownOf_27 : decode cX8_flownOf 27 = .ok (.iconst 0, 1) := by decide +kernel
theorem dX8_flownOf_28 : decode cX8_flownOf 28 = .ok (.iadd, 1) := by decide +kernel
theorem dX8_flownOf_29 : decode cX8_flownOf 29 = .ok (.istore_n 2, 1) := by decide +kernel
theorem dX8_flownOf_30 : decode cX8_flownOf 30 = .ok (.iinc 3 1, 3) := by decide +kernel
theorem dX8_flownOf_33 : decode cX8_flownOf 33 = .ok (.goto (-29), 3) := by decide +kernel
theorem dX8_flownOf_36 : decode cX8_flownOf 36 = .ok (.iload_n 2, 1) := by decide +kernel
theorem dX8_flownOf_37 : decode cX8_flownOf 37 = .ok (.ireturn, 1) := by decide +kernel
theorem dX8_ticket_0 : decode cX8_ticket 0 = .ok (.aload_n 0, 1) := by decide +kernel
theorem dX8_ticket_1 : decode cX8_ticket 1 = .ok (.iconst 0, 1) := by decide +kernel
theorem dX8_ticket_2 : decode cX8_ticket 2 = .ok (.putfield 112, 3) := by decide +kernel
theorem dX8_ticket_5 : decode cX8_ticket 5 = .ok (.aload_n 0, 1) := by decide +kernel
theorem dX8_ticket_6 : decode cX8_ticket 6 = .ok (.iload_n 1, 1) := by decide +kernel
theorem dX8_ticket_7 : decode cX8_ticket 7 = .ok (.invokevirtual 298, 3) := by decide +kernel
theorem dX8_ticket_10 : decode cX8_ticket 10 = .ok (.ifCond .ne 10, 3) := by decide +kernel
theorem dX8_ticket_13 : decode cX8_ticket 13 = .ok (.aload_n 0, 1) := by decide +kernel
theorem dX8_ticket_14 : decode cX8_ticket 14 = .ok (.iconst 1, 1) := by decide +kernel
theorem dX8_ticket_15 : decode cX8_ticket 15 = .ok (.putfield 112, 3) := by decide +kernel
theorem dX8_ticket_18 : decode cX8_ticket 18 = .ok (.iconst 0, 1) := by decide +kernel
theorem dX8_ticket_19 : decode cX8_ticket 19 = .ok (.ireturn, 1) := by decide +kernel
theorem dX8_ticket_20 : decode cX8_ticket 20 = .ok (.iconst 0, 1) := by decide +kernel
theorem dX8_ticket_21 : decode cX8_ticket 21 = .ok (.istore_n 3, 1) := by decide +kernel
theorem dX8_ticket_22 : decode cX8_ticket 22 = .ok (.iload_n 2, 1) := by decide +kernel
theorem dX8_ticket_23 : decode cX8_ticket 23 = .ok (.tableswitch 155 0 7 #[45, 45, 45, 56, 62, 73, 84, 115], 45) := by decide +kernel
theorem dX8_ticket_68 : decode cX8_ticket 68 = .ok (.aload_n 0, 1) := by decide +kernel
theorem dX8_ticket_69 : decode cX8_ticket 69 = .ok (.getfield 25, 3) := by decide +kernel
theorem dX8_ticket_72 : decode cX8_ticket 72 = .ok (.iconst 4, 1) := by decide +kernel
theorem dX8_ticket_73 : decode cX8_ticket 73 = .ok (.iload_n 1, 1) := by decide +kernel
theorem dX8_ticket_74 : decode cX8_ticket 74 = .ok (.imul, 1) := by decide +kernel
theorem dX8_ticket_75 : decode cX8_ticket 75 = .ok (.iload_n 2, 1) := by decide +kernel
theorem dX8_ticket_76 : decode cX8_ticket 76 = .ok (.iadd, 1) := by decide +kernel
theorem dX8_ticket_77 : decode cX8_ticket 77 = .ok (.iaload, 1) := by decide +kernel
theorem dX8_ticket_78 : decode cX8_ticket 78 = .ok (.ireturn, 1) := by decide +kernel
theorem dX8_ticket_79 : decode cX8_ticket 79 = .ok (.aload_n 0, 1) := by decide +kernel
theorem dX8_ticket_80 : decode cX8_ticket 80 = .ok (.iload_n 1, 1) := by decide +kernel
theorem dX8_ticket_81 : decode cX8_ticket 81 = .ok (.invokevirtual 390, 3) := by decide +kernel
theorem dX8_ticket_84 : decode cX8_ticket 84 = .ok (.ireturn, 1) := by decide +kernel
theorem dX8_ticket_85 : decode cX8_ticket 85 = .ok (.aload_n 0, 1) := by decide +kernel
theorem dX8_ticket_86 : decode cX8_ticket 86 = .ok (.getfield 25, 3) := by decide +kernel
theorem dX8_ticket_89 : decode cX8_ticket 89 = .ok (.iconst 4, 1) := by decide +kernel
theorem dX8_ticket_90 : decode cX8_ticket 90 = .ok (.iload_n 1, 1) := by decide +kernel
theorem dX8_ticket_91 : decode cX8_ticket 91 = .ok (.imul, 1) := by decide +kernel
theorem dX8_ticket_92 : decode cX8_ticket 92 = .ok (.iconst 3, 1) := by decide +kernel
theorem dX8_ticket_93 : decode cX8_ticket 93 = .ok (.iadd, 1) := by decide +kernel
theorem dX8_ticket_94 : decode cX8_ticket 94 = .ok (.iaload, 1) := by decide +kernel
theorem dX8_ticket_95 : decode cX8_ticket 95 = .ok (.ireturn, 1) := by decide +kernel
theorem dX8_ticket_96 : decode cX8_ticket 96 = .ok (.aload_n 0, 1) := by decide +kernel
theorem dX8_ticket_97 : decode cX8_ticket 97 = .ok (.getfield 37, 3) := by decide +kernel
theorem dX8_ticket_100 : decode cX8_ticket 100 = .ok (.sipush 234, 3) := by decide +kernel
theorem dX8_ticket_103 : decode cX8_ticket 103 = .ok (.iload_n 1, 1) := by decide +kernel
theorem dX8_ticket_104 : decode cX8_ticket 104 = .ok (.iadd, 1) := by decide +kernel
theorem dX8_ticket_105 : decode cX8_ticket 105 = .ok (.iaload, 1) := by decide +kernel
theorem dX8_ticket_106 : decode cX8_ticket 106 = .ok (.ireturn, 1) := by decide +kernel
theorem dX8_ticket_107 : decode cX8_ticket 107 = .ok (.iconst 0, 1) := by decide +kernel
theorem dX8_ticket_108 : decode cX8_ticket 108 = .ok (.istore 4, 2) := by decide +kernel
theorem dX8_ticket_110 : decode cX8_ticket 110 = .ok (.iload 4, 2) := by decide +kernel
theorem dX8_ticket_112 : decode cX8_ticket 112 = .ok (.aload_n 0, 1) := by decide +kernel
theorem dX8_ticket_113 : decode cX8_ticket 113 = .ok (.iload_n 1, 1) := by decide +kernel
theorem dX8_ticket_114 : decode cX8_ticket 114 = .ok (.invokevirtual 301, 3) := by decide +kernel
theorem dX8_ticket_117 : decode cX8_ticket 117 = .ok (.if_icmp .ge 19, 3) := by decide +kernel
theorem dX8_ticket_120 : decode cX8_ticket 120 = .ok (.iload_n 3, 1) := by decide +kernel
theorem dX8_ticket_121 : decode cX8_ticket 121 = .ok (.aload_n 0, 1) := by decide +kernel
theorem dX8_ticket_122 : decode cX8_ticket 122 = .ok (.iload_n 1, 1) := by decide +kernel
theorem dX8_ticket_123 : decode cX8_ticket 123 = .ok (.iload 4, 2) := by decide +kernel
theorem dX8_ticket_125 : decode cX8_ticket 125 = .ok (.invokevirtual 318, 3) := by decide +kernel
theorem dX8_ticket_128 : decode cX8_ticket 128 = .ok (.iadd, 1) := by decide +kernel
theorem dX8_ticket_129 : decode cX8_ticket 129 = .ok (.istore_n 3, 1) := by decide +kernel
theorem dX8_ticket_130 : decode cX8_ticket 130 = .ok (.iinc 4 1, 3) := by decide +kernel
theorem dX8_ticket_133 : decode cX8_ticket 133 = .ok (.goto (-23), 3) := by decide +kernel
theorem dX8_ticket_136 : decode cX8_ticket 136 = .ok (.iload_n 3, 1) := by decide +kernel
theorem dX8_ticket_137 : decode cX8_ticket 137 = .ok (.ireturn, 1) := by decide +kernel
theorem dX8_ticket_138 : decode cX8_ticket 138 = .ok (.iconst 0, 1) := by decide +kernel
theorem dX8_ticket_139 : decode cX8_ticket 139 = .ok (.istore 4, 2) := by decide +kernel
theorem dX8_ticket_141 : decode cX8_ticket 141 = .ok (.iload 4, 2) := by decide +kernel
theorem dX8_ticket_143 : decode cX8_ticket 143 = .ok (.aload_n 0, 1) := by decide +kernel
theorem dX8_ticket_144 : decode cX8_ticket 144 = .ok (.iload_n 1, 1) := by decide +kernel
theorem dX8_ticket_145 : decode cX8_ticket 145 = .ok (.invokevirtual 301, 3) := by decide +kernel
theorem dX8_ticket_148 : decode cX8_ticket 148 = .ok (.if_icmp .ge 28, 3) := by decide +kernel
theorem dX8_ticket_151 : decode cX8_ticket 151 = .ok (.iload_n 3, 1) := by decide +kernel
theorem dX8_ticket_152 : decode cX8_ticket 152 = .ok (.aload_n 0, 1) := by decide +kernel
theorem dX8_ticket_153 : decode cX8_ticket 153 = .ok (.getfield 37, 3) := by decide +kernel
theorem dX8_ticket_156 : decode cX8_ticket 156 = .ok (.sipush 128, 3) := by decide +kernel
theorem dX8_ticket_159 : decode cX8_ticket 159 = .ok (.bipush 8, 2) := by decide +kernel
theorem dX8_ticket_161 : decode cX8_ticket 161 = .ok (.iload_n 1, 1) := by decide +kernel
theorem dX8_ticket_162 : decode cX8_ticket 162 = .ok (.imul, 1) := by decide +kernel
theorem dX8_ticket_163 : decode cX8_ticket 163 = .ok (.iadd, 1) := by decide +kernel
theorem dX8_ticket_164 : decode cX8_ticket 164 = .ok (.iload 4, 2) := by decide +kernel
theorem dX8_ticket_166 : decode cX8_ticket 166 = .ok (.iadd, 1) := by decide +kernel
theorem dX8_ticket_167 : decode cX8_ticket 167 = .ok (.iaload, 1) := by decide +kernel
theorem dX8_ticket_168 : decode cX8_ticket 168 = .ok (.iadd, 1) := by decide +kernel
theorem dX8_ticket_169 : decode cX8_ticket 169 = .ok (.istore_n 3, 1) := by decide +kernel
theorem dX8_ticket_170 : decode cX8_ticket 170 = .ok (.iinc 4 1, 3) := by decide +kernel
theorem dX8_ticket_173 : decode cX8_ticket 173 = .ok (.goto (-32), 3) := by decide +kernel
theorem dX8_ticket_176 : decode cX8_ticket 176 = .ok (.iload_n 3, 1) := by decide +kernel
theorem dX8_ticket_177 : decode cX8_ticket 177 = .ok (.ireturn, 1) := by decide +kernel
theorem dX8_ticket_178 : decode cX8_ticket 178 = .ok (.aload_n 0, 1) := by decide +kernel
theorem dX8_ticket_179 : decode cX8_ticket 179 = .ok (.iconst 2, 1) := by decide +kernel
theorem dX8_ticket_180 : decode cX8_ticket 180 = .ok (.putfield 112, 3) := by decide +kernel
theorem dX8_ticket_183 : decode cX8_ticket 183 = .ok (.iconst 0, 1) := by decide +kernel
theorem dX8_ticket_184 : decode cX8_ticket 184 = .ok (.ireturn, 1) := by decide +kernel
theorem dX8_coupon_0 : decode cX8_coupon 0 = .ok (.aload_n 0, 1) := by decide +kernel
theorem dX8_coupon_1 : decode cX8_coupon 1 = .ok (.iconst 0, 1) := by decide +kernel
theorem dX8_coupon_2 : decode cX8_coupon 2 = .ok (.putfield 112, 3) := by decide +kernel
theorem dX8_coupon_5 : decode cX8_coupon 5 = .ok (.aload_n 0, 1) := by decide +kernel
theorem dX8_coupon_6 : decode cX8_coupon 6 = .ok (.iload_n 1, 1) := by decide +kernel
theorem dX8_coupon_7 : decode cX8_coupon 7 = .ok (.iload_n 2, 1) := by decide +kernel
theorem dX8_coupon_8 : decode cX8_coupon 8 = .ok (.invokevirtual 393, 3) := by decide +kernel
theorem dX8_coupon_11 : decode cX8_coupon 11 = .ok (.ifCond .ne 5, 3) := by decide +kernel
theorem dX8_coupon_14 : decode cX8_coupon 14 = .ok (.iconst (-1), 1) := by decide +kernel
theorem dX8_coupon_15 : decode cX8_coupon 15 = .ok (.ireturn, 1) := by decide +kernel
theorem dX8_coupon_16 : decode cX8_coupon 16 = .ok (.iload_n 3, 1) := by decide +kernel
theorem dX8_coupon_17 : decode cX8_coupon 17 = .ok (.tableswitch 139 0 7 #[47, 54, 66, 78, 85, 103, 118, 130], 47) := by decide +kernel
theorem dX8_coupon_64 : decode cX8_coupon 64 = .ok (.aload_n 0, 1) := by decide +kernel
theorem dX8_coupon_65 : decode cX8_coupon 65 = .ok (.iload_n 1, 1) := by decide +kernel
theorem dX8_coupon_66 : decode cX8_coupon 66 = .ok (.iload_n 2, 1) := by decide +kernel
theorem dX8_coupon_67 : decode cX8_coupon 67 = .ok (.invokevirtual 321, 3) := by decide +kernel
theorem dX8_coupon_70 : decode cX8_coupon 70 = .ok (.ireturn, 1) := by decide +kernel
theorem dX8_coupon_71 : decode cX8_coupon 71 = .ok (.aload_n 0, 1) := by decide +kernel
theorem dX8_coupon_72 : decode cX8_coupon 72 = .ok (.getfield 28, 3) := by decide +kernel
theorem dX8_coupon_75 : decode cX8_coupon 75 = .ok (.bipush 8, 2) := by decide +kernel
theorem dX8_coupon_77 : decode cX8_coupon 77 = .ok (.iload_n 1, 1) := by decide +kernel
theorem dX8_coupon_78 : decode cX8_coupon 78 = .ok (.imul, 1) := by decide +kernel
theorem dX8_coupon_79 : decode cX8_coupon 79 = .ok (.iload_n 2, 1) := by decide +kernel
theorem dX8_coupon_80 : decode cX8_coupon 80 = .ok (.iadd, 1) := by decide +kernel
theorem dX8_coupon_81 : decode cX8_coupon 81 = .ok (.iaload, 1) := by decide +kernel
theorem dX8_coupon_82 : decode cX8_coupon 82 = .ok (.ireturn, 1) := by decide +kernel
theorem dX8_coupon_83 : decode cX8_coupon 83 = .ok (.aload_n 0, 1) := by decide +kernel
theorem dX8_coupon_84 : decode cX8_coupon 84 = .ok (.getfield 31, 3) := by decide +kernel
theorem dX8_coupon_87 : decode cX8_coupon 87 = .ok (.bipush 8, 2) := by decide +kernel
theorem dX8_coupon_89 : decode cX8_coupon 89 = .ok (.iload_n 1, 1) := by decide +kernel
theorem dX8_coupon_90 : decode cX8_coupon 90 = .ok (.imul, 1) := by decide +kernel
theorem dX8_coupon_91 : decode cX8_coupon 91 = .ok (.iload_n 2, 1) := by decide +kernel
theorem dX8_coupon_92 : decode cX8_coupon 92 = .ok (.iadd, 1) := by decide +kernel
theorem dX8_coupon_93 : decode cX8_coupon 93 = .ok (.iaload, 1) := by decide +kernel
theorem dX8_coupon_94 : decode cX8_coupon 94 = .ok (.ireturn, 1) := by decide +kernel
theorem dX8_coupon_95 : decode cX8_coupon 95 = .ok (.aload_n 0, 1) := by decide +kernel
theorem dX8_coupon_96 : decode cX8_coupon 96 = .ok (.iload_n 1, 1) := by decide +kernel
theorem dX8_coupon_97 : decode cX8_coupon 97 = .ok (.iload_n 2, 1) := by decide +kernel
theorem dX8_coupon_98 : decode cX8_coupon 98 = .ok (.invokevirtual 318, 3) := by decide +kernel
theorem dX8_coupon_101 : decode cX8_coupon 101 = .ok (.ireturn, 1) := by decide +kernel
theorem dX8_coupon_102 : decode cX8_coupon 102 = .ok (.aload_n 0, 1) := by decide +kernel
theorem dX8_coupon_103 : decode cX8_coupon 103 = .ok (.iload_n 1, 1) := by decide +kernel
theorem dX8_coupon_104 : decode cX8_coupon 104 = .ok (.iload_n 2, 1) := by decide +kernel
theorem dX8_coupon_105 : decode cX8_coupon 105 = .ok (.aload_n 0, 1) := by decide +kernel
theorem dX8_coupon_106 : decode cX8_coupon 106 = .ok (.getfield 25, 3) := by decide +kernel
theorem dX8_coupon_109 : decode cX8_coupon 109 = .ok (.iconst 4, 1) := by decide +kernel
theorem dX8_coupon_110 : decode cX8_coupon 110 = .ok (.iload_n 1, 1) := by decide +kernel
theorem dX8_coupon_111 : decode cX8_coupon 111 = .ok (.imul, 1) := by decide +kernel
theorem dX8_coupon_112 : decode cX8_coupon 112 = .ok (.iconst 1, 1) := by decide +kernel
theorem dX8_coupon_113 : decode cX8_coupon 113 = .ok (.iadd, 1) := by decide +kernel
theorem dX8_coupon_114 : decode cX8_coupon 114 = .ok (.iaload, 1) := by decide +kernel
theorem dX8_coupon_115 : decode cX8_coupon 115 = .ok (.invokevirtual 350, 3) := by decide +kernel
theorem dX8_coupon_118 : decode cX8_coupon 118 = .ok (.l2i, 1) := by decide +kernel
theorem dX8_coupon_119 : decode cX8_coupon 119 = .ok (.ireturn, 1) := by decide +kernel
theorem dX8_coupon_120 : decode cX8_coupon 120 = .ok (.aload_n 0, 1) := by decide +kernel
theorem dX8_coupon_121 : decode cX8_coupon 121 = .ok (.iload_n 1, 1) := by decide +kernel
theorem dX8_coupon_122 : decode cX8_coupon 122 = .ok (.iload_n 2, 1) := by decide +kernel
theorem dX8_coupon_123 : decode cX8_coupon 123 = .ok (.invokevirtual 345, 3) := by decide +kernel
theorem dX8_coupon_126 : decode cX8_coupon 126 = .ok (.ifCond .eq 7, 3) := by decide +kernel
theorem dX8_coupon_129 : decode cX8_coupon 129 = .ok (.iconst 1, 1) := by decide +kernel
theorem dX8_coupon_130 : decode cX8_coupon 130 = .ok (.goto 4, 3) := by decide +kernel
theorem dX8_coupon_133 : decode cX8_coupon 133 = .ok (.iconst 0, 1) := by decide +kernel
theorem dX8_coupon_134 : decode cX8_coupon 134 = .ok (.ireturn, 1) := by decide +kernel
theorem dX8_coupon_135 : decode cX8_coupon 135 = .ok (.aload_n 0, 1) := by decide +kernel
theorem dX8_coupon_136 : decode cX8_coupon 136 = .ok (.iload_n 1, 1) := by decide +kernel
theorem dX8_coupon_137 : decode cX8_coupon 137 = .ok (.invokevirtual 396, 3) := by decide +kernel
theorem dX8_coupon_140 : decode cX8_coupon 140 = .ok (.aload_n 0, 1) := by decide +kernel
theorem dX8_coupon_141 : decode cX8_coupon 141 = .ok (.getfield 81, 3) := by decide +kernel
theorem dX8_coupon_144 : decode cX8_coupon 144 = .ok (.iload_n 2, 1) := by decide +kernel
theorem dX8_coupon_145 : decode cX8_coupon 145 = .ok (.iaload, 1) := by decide +kernel
theorem dX8_coupon_146 : decode cX8_coupon 146 = .ok (.ireturn, 1) := by decide +kernel
theorem dX8_coupon_147 : decode cX8_coupon 147 = .ok (.aload_n 0, 1) := by decide +kernel
theorem dX8_coupon_148 : decode cX8_coupon 148 = .ok (.iload_n 1, 1) := by decide +kernel
theorem dX8_coupon_149 : decode cX8_coupon 149 = .ok (.iload_n 2, 1) := by decide +kernel
theorem dX8_coupon_150 : decode cX8_coupon 150 = .ok (.bipush (-2), 2) := by decide +kernel
theorem dX8_coupon_152 : decode cX8_coupon 152 = .ok (.invokevirtual 342, 3) := by decide +kernel
theorem dX8_coupon_155 : decode cX8_coupon 155 = .ok (.ireturn, 1) := by decide +kernel
theorem dX8_coupon_156 : decode cX8_coupon 156 = .ok (.iconst (-1), 1) := by decide +kernel
theorem dX8_coupon_157 : decode cX8_coupon 157 = .ok (.ireturn, 1) := by decide +kernel
theorem dX8_share_0 : decode cX8_share 0 = .ok (.aload_n 0, 1) := by decide +kernel
theorem dX8_share_1 : decode cX8_share 1 = .ok (.iconst 0, 1) := by decide +kernel
theorem dX8_share_2 : decode cX8_share 2 = .ok (.putfield 112, 3) := by decide +kernel
theorem dX8_share_5 : decode cX8_share 5 = .ok (.aload_n 0, 1) := by decide +kernel
theorem dX8_share_6 : decode cX8_share 6 = .ok (.iload_n 1, 1) := by decide +kernel
theorem dX8_share_7 : decode cX8_share 7 = .ok (.iload_n 2, 1) := by decide +kernel
theorem dX8_share_8 : decode cX8_share 8 = .ok (.invokevirtual 393, 3) := by decide +kernel
theorem dX8_share_11 : decode cX8_share 11 = .ok (.ifCond .ne 5, 3) := by decide +kernel
theorem dX8_share_14 : decode cX8_share 14 = .ok (.iconst (-1), 1) := by decide +kernel
theorem dX8_share_15 : decode cX8_share 15 = .ok (.ireturn, 1) := by decide +kernel
theorem dX8_share_16 : decode cX8_share 16 = .ok (.aload_n 0, 1) := by decide +kernel
theorem dX8_share_17 : decode cX8_share 17 = .ok (.iload_n 1, 1) := by decide +kernel
theorem dX8_share_18 : decode cX8_share 18 = .ok (.invokevirtual 396, 3) := by decide +kernel
theorem dX8_share_21 : decode cX8_share 21 = .ok (.aload_n 0, 1) := by decide +kernel
theorem dX8_share_22 : decode cX8_share 22 = .ok (.getfield 88, 3) := by decide +kernel
theorem dX8_share_25 : decode cX8_share 25 = .ok (.iload_n 2, 1) := by decide +kernel
theorem dX8_share_26 : decode cX8_share 26 = .ok (.iaload, 1) := by decide +kernel
theorem dX8_share_27 : decode cX8_share 27 = .ok (.ireturn, 1) := by decide +kernel
theorem dX8_carried_0 : decode cX8_carried 0 = .ok (.aload_n 0, 1) := by decide +kernel
theorem dX8_carried_1 : decode cX8_carried 1 = .ok (.iconst 0, 1) := by decide +kernel
theorem dX8_carried_2 : decode cX8_carried 2 = .ok (.putfield 112, 3) := by decide +kernel
theorem dX8_carried_5 : decode cX8_carried 5 = .ok (.aload_n 0, 1) := by decide +kernel
theorem dX8_carried_6 : decode cX8_carried 6 = .ok (.iload_n 1, 1) := by decide +kernel
theorem dX8_carried_7 : decode cX8_carried 7 = .ok (.invokevirtual 298, 3) := by decide +kernel
theorem dX8_carried_10 : decode cX8_carried 10 = .ok (.ifCond .eq 11, 3) := by decide +kernel
theorem dX8_carried_13 : decode cX8_carried 13 = .ok (.aload_n 0, 1) := by decide +kernel
theorem dX8_carried_14 : decode cX8_carried 14 = .ok (.iload_n 2, 1) := by decide +kernel
theorem dX8_carried_15 : decode cX8_carried 15 = .ok (.invokevirtual 315, 3) := by decide +kernel
theorem dX8_carried_18 : decode cX8_carried 18 = .ok (.ifCond .ne 5, 3) := by decide +kernel
theorem dX8_carried_21 : decode cX8_carried 21 = .ok (.iconst (-1), 1) := by decide +kernel
theorem dX8_carried_22 : decode cX8_carried 22 = .ok (.ireturn, 1) := by decide +kernel
theorem dX8_carried_23 : decode cX8_carried 23 = .ok (.aload_n 0, 1) := by decide +kernel
theorem dX8_carried_24 : decode cX8_carried 24 = .ok (.iload_n 1, 1) := by decide +kernel
theorem dX8_carried_25 : decode cX8_carried 25 = .ok (.invokevirtual 396, 3) := by decide +kernel
theorem dX8_carried_28 : decode cX8_carried 28 = .ok (.iconst 0, 1) := by decide +kernel
theorem dX8_carried_29 : decode cX8_carried 29 = .ok (.istore_n 3, 1) := by decide +kernel
theorem dX8_carried_30 : decode cX8_carried 30 = .ok (.iconst 0, 1) := by decide +kernel
theorem dX8_carried_31 : decode cX8_carried 31 = .ok (.istore 4, 2) := by decide +kernel
theorem dX8_carried_33 : decode cX8_carried 33 = .ok (.iload 4, 2) := by decide +kernel
theorem dX8_carried_35 : decode cX8_carried 35 = .ok (.aload_n 0, 1) := by decide +kernel
theorem dX8_carried_36 : decode cX8_carried 36 = .ok (.iload_n 1, 1) := by decide +kernel
theorem dX8_carried_37 : decode cX8_carried 37 = .ok (.invokevirtual 301, 3) := by decide +kernel
theorem dX8_carried_40 : decode cX8_carried 40 = .ok (.if_icmp .ge 34, 3) := by decide +kernel
theorem dX8_carried_43 : decode cX8_carried 43 = .ok (.iload_n 3, 1) := by decide +kernel
theorem dX8_carried_44 : decode cX8_carried 44 = .ok (.aload_n 0, 1) := by decide +kernel
theorem dX8_carried_45 : decode cX8_carried 45 = .ok (.iload_n 1, 1) := by decide +kernel
theorem dX8_carried_46 : decode cX8_carried 46 = .ok (.iload 4, 2) := by decide +kernel
theorem dX8_carried_48 : decode cX8_carried 48 = .ok (.invokevirtual 321, 3) := by decide +kernel
theorem dX8_carried_51 : decode cX8_carried 51 = .ok (.iload_n 2, 1) := by decide +kernel
theorem dX8_carried_52 : decode cX8_carried 52 = .ok (.if_icmp .ne 13, 3) := by decide +kernel
theorem dX8_carried_55 : decode cX8_carried 55 = .ok (.aload_n 0, 1) := by decide +kernel
theorem dX8_carried_56 : decode cX8_carried 56 = .ok (.getfield 88, 3) := by decide +kernel
theorem dX8_carried_59 : decode cX8_carried 59 = .ok (.iload 4, 2) := by decide +kernel
theorem dX8_carried_61 : decode cX8_carried 61 = .ok (.iaload, 1) := by decide +kernel
theorem dX8_carried_62 : decode cX8_carried 62 = .ok (.goto 4, 3) := by decide +kernel
theorem dX8_carried_65 : decode cX8_carried 65 = .ok (.iconst 0, 1) := by decide +kernel
theorem dX8_carried_66 : decode cX8_carried 66 = .ok (.iadd, 1) := by decide +kernel
theorem dX8_carried_67 : decode cX8_carried 67 = .ok (.istore_n 3, 1) := by decide +kernel
theorem dX8_carried_68 : decode cX8_carried 68 = .ok (.iinc 4 1, 3) := by decide +kernel
theorem dX8_carried_71 : decode cX8_carried 71 = .ok (.goto (-38), 3) := by decide +kernel
theorem dX8_carried_74 : decode cX8_carried 74 = .ok (.iload_n 3, 1) := by decide +kernel
theorem dX8_carried_75 : decode cX8_carried 75 = .ok (.ireturn, 1) := by decide +kernel
theorem dX8_rounds_0 : decode cX8_rounds 0 = .ok (.aload_n 0, 1) := by decide +kernel
theorem dX8_rounds_1 : decode cX8_rounds 1 = .ok (.iconst 0, 1) := by decide +kernel
theorem dX8_rounds_2 : decode cX8_rounds 2 = .ok (.putfield 112, 3) := by decide +kernel
theorem dX8_rounds_5 : decode cX8_rounds 5 = .ok (.aload_n 0, 1) := by decide +kernel
theorem dX8_rounds_6 : decode cX8_rounds 6 = .ok (.iload_n 1, 1) := by decide +kernel
theorem dX8_rounds_7 : decode cX8_rounds 7 = .ok (.invokevirtual 298, 3) := by decide +kernel
theorem dX8_rounds_10 : decode cX8_rounds 10 = .ok (.ifCond .ne 5, 3) := by decide +kernel
theorem dX8_rounds_13 : decode cX8_rounds 13 = .ok (.iconst (-1), 1) := by decide +kernel
theorem dX8_rounds_14 : decode cX8_rounds 14 = .ok (.ireturn, 1) := by decide +kernel
theorem dX8_rounds_15 : decode cX8_rounds 15 = .ok (.aload_n 0, 1) := by decide +kernel
theorem dX8_rounds_16 : decode cX8_rounds 16 = .ok (.iload_n 1, 1) := by decide +kernel
theorem dX8_rounds_17 : decode cX8_rounds 17 = .ok (.invokevirtual 396, 3) := by decide +kernel
theorem dX8_rounds_20 : decode cX8_rounds 20 = .ok (.aload_n 0, 1) := by decide +kernel
theorem dX8_rounds_21 : decode cX8_rounds 21 = .ok (.getfield 332, 3) := by decide +kernel
theorem dX8_rounds_24 : decode cX8_rounds 24 = .ok (.ireturn, 1) := by decide +kernel
theorem dX8_left_0 : decode cX8_left 0 = .ok (.aload_n 0, 1) := by decide +kernel
theorem dX8_left_1 : decode cX8_left 1 = .ok (.iconst 0, 1) := by decide +kernel
theorem dX8_left_2 : decode cX8_left 2 = .ok (.putfield 112, 3) := by decide +kernel
theorem dX8_left_5 : decode cX8_left 5 = .ok (.aload_n 0, 1) := by decide +kernel
theorem dX8_left_6 : decode cX8_left 6 = .ok (.iload_n 1, 1) := by decide +kernel
theorem dX8_left_7 : decode cX8_left 7 = .ok (.invokevirtual 298, 3) := by decide +kernel
theorem dX8_left_10 : decode cX8_left 10 = .ok (.ifCond .ne 5, 3) := by decide +kernel
theorem dX8_left_13 : decode cX8_left 13 = .ok (.iconst (-1), 1) := by decide +kernel
theorem dX8_left_14 : decode cX8_left 14 = .ok (.ireturn, 1) := by decide +kernel
theorem dX8_left_15 : decode cX8_left 15 = .ok (.aload_n 0, 1) := by decide +kernel
theorem dX8_left_16 : decode cX8_left 16 = .ok (.iload_n 1, 1) := by decide +kernel
theorem dX8_left_17 : decode cX8_left 17 = .ok (.invokevirtual 396, 3) := by decide +kernel
theorem dX8_left_20 : decode cX8_left 20 = .ok (.aload_n 0, 1) := by decide +kernel
theorem dX8_left_21 : decode cX8_left 21 = .ok (.getfield 335, 3) := by decide +kernel
theorem dX8_left_24 : decode cX8_left 24 = .ok (.ireturn, 1) := by decide +kernel
theorem dX8_straight_0 : decode cX8_straight 0 = .ok (.aload_n 0, 1) := by decide +kernel
theorem dX8_straight_1 : decode cX8_straight 1 = .ok (.iconst 0, 1) := by decide +kernel
theorem dX8_straight_2 : decode cX8_straight 2 = .ok (.putfield 112, 3) := by decide +kernel
theorem dX8_straight_5 : decode cX8_straight 5 = .ok (.aload_n 0, 1) := by decide +kernel
theorem dX8_straight_6 : decode cX8_straight 6 = .ok (.iload_n 1, 1) := by decide +kernel
theorem dX8_straight_7 : decode cX8_straight 7 = .ok (.iload_n 2, 1) := by decide +kernel
theorem dX8_straight_8 : decode cX8_straight 8 = .ok (.invokevirtual 393, 3) := by decide +kernel
theorem dX8_straight_11 : decode cX8_straight 11 = .ok (.ifCond .ne 5, 3) := by decide +kernel
theorem dX8_straight_14 : decode cX8_straight 14 = .ok (.iconst (-1), 1) := by decide +kernel
theorem dX8_straight_15 : decode cX8_straight 15 = .ok (.ireturn, 1) := by decide +kernel
theorem dX8_straight_16 : decode cX8_straight 16 = .ok (.aload_n 0, 1) := by decide +kernel
theorem dX8_straight_17 : decode cX8_straight 17 = .ok (.iload_n 1, 1) := by decide +kernel
theorem dX8_straight_18 : decode cX8_straight 18 = .ok (.aload_n 0, 1) := by decide +kernel
theorem dX8_straight_19 : decode cX8_straight 19 = .ok (.getfield 25, 3) := by decide +kernel
theorem dX8_straight_22 : decode cX8_straight 22 = .ok (.iconst 4, 1) := by decide +kernel
theorem dX8_straight_23 : decode cX8_straight 23 = .ok (.iload_n 1, 1) := by decide +kernel
theorem dX8_straight_24 : decode cX8_straight 24 = .ok (.imul, 1) := by decide +kernel
theorem dX8_straight_25 : decode cX8_straight 25 = .ok (.iconst 1, 1) := by decide +kernel
theorem dX8_straight_26 : decode cX8_straight 26 = .ok (.iadd, 1) := by decide +kernel
theorem dX8_straight_27 : decode cX8_straight 27 = .ok (.iaload, 1) := by decide +kernel
theorem dX8_straight_28 : decode cX8_straight 28 = .ok (.bipush (-2), 2) := by decide +kernel
theorem dX8_straight_30 : decode cX8_straight 30 = .ok (.iconst 1, 1) := by decide +kernel
theorem dX8_straight_31 : decode cX8_straight 31 = .ok (.invokevirtual 383, 3) := by decide +kernel
theorem dX8_straight_34 : decode cX8_straight 34 = .ok (.aload_n 0, 1) := by decide +kernel
theorem dX8_straight_35 : decode cX8_straight 35 = .ok (.getfield 88, 3) := by decide +kernel
theorem dX8_straight_38 : decode cX8_straight 38 = .ok (.iload_n 2, 1) := by decide +kernel
theorem dX8_straight_39 : decode cX8_straight 39 = .ok (.iaload, 1) := by decide +kernel
theorem dX8_straight_40 : decode cX8_straight 40 = .ok (.ireturn, 1) := by decide +kernel
theorem dX8_other_0 : decode cX8_other 0 = .ok (.aload_n 0, 1) := by decide +kernel
theorem dX8_other_1 : decode cX8_other 1 = .ok (.iconst 0, 1) := by decide +kernel
theorem dX8_other_2 : decode cX8_other 2 = .ok (.putfield 112, 3) := by decide +kernel
theorem dX8_other_5 : decode cX8_other 5 = .ok (.aload_n 0, 1) := by decide +kernel
theorem dX8_other_6 : decode cX8_other 6 = .ok (.iload_n 1, 1) := by decide +kernel
theorem dX8_other_7 : decode cX8_other 7 = .ok (.iload_n 2, 1) := by decide +kernel
theorem dX8_other_8 : decode cX8_other 8 = .ok (.invokevirtual 393, 3) := by decide +kernel
theorem dX8_other_11 : decode cX8_other 11 = .ok (.ifCond .ne 5, 3) := by decide +kernel
theorem dX8_other_14 : decode cX8_other 14 = .ok (.iconst (-1), 1) := by decide +kernel
theorem dX8_other_15 : decode cX8_other 15 = .ok (.ireturn, 1) := by decide +kernel
theorem dX8_other_16 : decode cX8_other 16 = .ok (.aload_n 0, 1) := by decide +kernel
theorem dX8_other_17 : decode cX8_other 17 = .ok (.iload_n 1, 1) := by decide +kernel
theorem dX8_other_18 : decode cX8_other 18 = .ok (.iconst 1, 1) := by decide +kernel
theorem dX8_other_19 : decode cX8_other 19 = .ok (.aload_n 0, 1) := by decide +kernel
theorem dX8_other_20 : decode cX8_other 20 = .ok (.getfield 25, 3) := by decide +kernel
theorem dX8_other_23 : decode cX8_other 23 = .ok (.iconst 4, 1) := by decide +kernel
theorem dX8_other_24 : decode cX8_other 24 = .ok (.iload_n 1, 1) := by decide +kernel
theorem dX8_other_25 : decode cX8_other 25 = .ok (.imul, 1) := by decide +kernel
theorem dX8_other_26 : decode cX8_other 26 = .ok (.iconst 1, 1) := by decide +kernel
theorem dX8_other_27 : decode cX8_other 27 = .ok (.iadd, 1) := by decide +kernel
theorem dX8_other_28 : decode cX8_other 28 = .ok (.iaload, 1) := by decide +kernel
theorem dX8_other_29 : decode cX8_other 29 = .ok (.isub, 1) := by decide +kernel
theorem dX8_other_30 : decode cX8_other 30 = .ok (.bipush (-2), 2) := by decide +kernel
theorem dX8_other_32 : decode cX8_other 32 = .ok (.iconst 0, 1) := by decide +kernel
theorem dX8_other_33 : decode cX8_other 33 = .ok (.invokevirtual 383, 3) := by decide +kernel
theorem dX8_other_36 : decode cX8_other 36 = .ok (.aload_n 0, 1) := by decide +kernel
theorem dX8_other_37 : decode cX8_other 37 = .ok (.getfield 88, 3) := by decide +kernel
theorem dX8_other_40 : decode cX8_other 40 = .ok (.iload_n 2, 1) := by decide +kernel
theorem dX8_other_41 : decode cX8_other 41 = .ok (.iaload, 1) := by decide +kernel
theorem dX8_other_42 : decode cX8_other 42 = .ok (.ireturn, 1) := by decide +kernel
theorem dX8_without_0 : decode cX8_without 0 = .ok (.aload_n 0, 1) := by decide +kernel
theorem dX8_without_1 : decode cX8_without 1 = .ok (.iconst 0, 1) := by decide +kernel
theorem dX8_without_2 : decode cX8_without 2 = .ok (.putfield 112, 3) := by decide +kernel
theorem dX8_without_5 : decode cX8_without 5 = .ok (.aload_n 0, 1) := by decide +kernel
theorem dX8_without_6 : decode cX8_without 6 = .ok (.iload_n 1, 1) := by decide +kernel
theorem dX8_without_7 : decode cX8_without 7 = .ok (.invokevirtual 387, 3) := by decide +kernel
theorem dX8_without_10 : decode cX8_without 10 = .ok (.ifCond .eq 12, 3) := by decide +kernel
theorem dX8_without_13 : decode cX8_without 13 = .ok (.aload_n 0, 1) := by decide +kernel
theorem dX8_without_14 : decode cX8_without 14 = .ok (.iload_n 2, 1) := by decide +kernel
theorem dX8_without_15 : decode cX8_without 15 = .ok (.iload_n 3, 1) := by decide +kernel
theorem dX8_without_16 : decode cX8_without 16 = .ok (.invokevirtual 393, 3) := by decide +kernel
theorem dX8_without_19 : decode cX8_without 19 = .ok (.ifCond .ne 5, 3) := by decide +kernel
theorem dX8_without_22 : decode cX8_without 22 = .ok (.iconst (-1), 1) := by decide +kernel
theorem dX8_without_23 : decode cX8_without 23 = .ok (.ireturn, 1) := by decide +kernel
theorem dX8_without_24 : decode cX8_without 24 = .ok (.aload_n 0, 1) := by decide +kernel
theorem dX8_without_25 : decode cX8_without 25 = .ok (.iload_n 2, 1) := by decide +kernel
theorem dX8_without_26 : decode cX8_without 26 = .ok (.aload_n 0, 1) := by decide +kernel
theorem dX8_without_27 : decode cX8_without 27 = .ok (.getfield 25, 3) := by decide +kernel
theorem dX8_without_30 : decode cX8_without 30 = .ok (.iconst 4, 1) := by decide +kernel
theorem dX8_without_31 : decode cX8_without 31 = .ok (.iload_n 2, 1) := by decide +kernel
theorem dX8_without_32 : decode cX8_without 32 = .ok (.imul, 1) := by decide +kernel
theorem dX8_without_33 : decode cX8_without 33 = .ok (.iconst 1, 1) := by decide +kernel
theorem dX8_without_34 : decode cX8_without 34 = .ok (.iadd, 1) := by decide +kernel
theorem dX8_without_35 : decode cX8_without 35 = .ok (.iaload, 1) := by decide +kernel
theorem dX8_without_36 : decode cX8_without 36 = .ok (.iload_n 1, 1) := by decide +kernel
theorem dX8_without_37 : decode cX8_without 37 = .ok (.iconst 0, 1) := by decide +kernel
theorem dX8_without_38 : decode cX8_without 38 = .ok (.invokevirtual 383, 3) := by decide +kernel
theorem dX8_without_41 : decode cX8_without 41 = .ok (.aload_n 0, 1) := by decide +kernel
theorem dX8_without_42 : decode cX8_without 42 = .ok (.getfield 88, 3) := by decide +kernel
theorem dX8_without_45 : decode cX8_without 45 = .ok (.iload_n 3, 1) := by decide +kernel
theorem dX8_without_46 : decode cX8_without 46 = .ok (.iaload, 1) := by decide +kernel
theorem dX8_without_47 : decode cX8_without 47 = .ok (.ireturn, 1) := by decide +kernel
theorem dX8_isOther__0 : decode cX8_isOther_ 0 = .ok (.aload_n 0, 1) := by decide +kernel
theorem dX8_isOther__1 : decode cX8_isOther_ 1 = .ok (.iload_n 2, 1) := by decide +kernel
theorem dX8_isOther__2 : decode cX8_isOther_ 2 = .ok (.invokevirtual 396, 3) := by decide +kernel
theorem dX8_isOther__5 : decode cX8_isOther_ 5 = .ok (.iconst 0, 1) := by decide +kernel
theorem dX8_isOther__6 : decode cX8_isOther_ 6 = .ok (.istore_n 3, 1) := by decide +kernel
theorem dX8_isOther__7 : decode cX8_isOther_ 7 = .ok (.iload_n 3, 1) := by decide +kernel
theorem dX8_isOther__8 : decode cX8_isOther_ 8 = .ok (.aload_n 0, 1) := by decide +kernel
theorem dX8_isOther__9 : decode cX8_isOther_ 9 = .ok (.iload_n 2, 1) := by decide +kernel
theorem dX8_isOther__10 : decode cX8_isOther_ 10 = .ok (.invokevirtual 301, 3) := by decide +kernel
theorem dX8_isOther__13 : decode cX8_isOther_ 13 = .ok (.if_icmp .ge 21, 3) := by decide +kernel
theorem dX8_isOther__16 : decode cX8_isOther_ 16 = .ok (.aload_n 0, 1) := by decide +kernel
theorem dX8_isOther__17 : decode cX8_isOther_ 17 = .ok (.getfield 91, 3) := by decide +kernel
theorem dX8_isOther__20 : decode cX8_isOther_ 20 = .ok (.iload_n 3, 1) := by decide +kernel
theorem dX8_isOther__21 : decode cX8_isOther_ 21 = .ok (.aload_n 0, 1) := by decide +kernel
theorem dX8_isOther__22 : decode cX8_isOther_ 22 = .ok (.getfield 88, 3) := by decide +kernel
theorem dX8_isOther__25 : decode cX8_isOther_ 25 = .ok (.iload_n 3, 1) := by decide +kernel
theorem dX8_isOther__26 : decode cX8_isOther_ 26 = .ok (.iaload, 1) := by decide +kernel
theorem dX8_isOther__27 : decode cX8_isOther_ 27 = .ok (.iastore, 1) := by decide +kernel
theorem dX8_isOther__28 : decode cX8_isOther_ 28 = .ok (.iinc 3 1, 3) := by decide +kernel
theorem dX8_isOther__31 : decode cX8_isOther_ 31 = .ok (.goto (-24), 3) := by decide +kernel
theorem dX8_isOther__34 : decode cX8_isOther_ 34 = .ok (.aload_n 0, 1) := by decide +kernel
theorem dX8_isOther__35 : decode cX8_isOther_ 35 = .ok (.iload_n 2, 1) := by decide +kernel
theorem dX8_isOther__36 : decode cX8_isOther_ 36 = .ok (.aload_n 0, 1) := by decide +kernel
theorem dX8_isOther__37 : decode cX8_isOther_ 37 = .ok (.getfield 25, 3) := by decide +kernel
theorem dX8_isOther__40 : decode cX8_isOther_ 40 = .ok (.iconst 4, 1) := by decide +kernel
theorem dX8_isOther__41 : decode cX8_isOther_ 41 = .ok (.iload_n 2, 1) := by decide +kernel
theorem dX8_isOther__42 : decode cX8_isOther_ 42 = .ok (.imul, 1) := by decide +kernel
theorem dX8_isOther__43 : decode cX8_isOther_ 43 = .ok (.iconst 1, 1) := by decide +kernel
theorem dX8_isOther__44 : decode cX8_isOther_ 44 = .ok (.iadd, 1) := by decide +kernel
theorem dX8_isOther__45 : decode cX8_isOther_ 45 = .ok (.iaload, 1) := by decide +kernel
theorem dX8_isOther__46 : decode cX8_isOther_ 46 = .ok (.iload_n 1, 1) := by decide +kernel
theorem dX8_isOther__47 : decode cX8_isOther_ 47 = .ok (.iconst 0, 1) := by decide +kernel
theorem dX8_isOther__48 : decode cX8_isOther_ 48 = .ok (.invokevirtual 383, 3) := by decide +kernel
theorem dX8_isOther__51 : decode cX8_isOther_ 51 = .ok (.iconst 0, 1) := by decide +kernel
theorem dX8_isOther__52 : decode cX8_isOther_ 52 = .ok (.istore_n 3, 1) := by decide +kernel
theorem dX8_isOther__53 : decode cX8_isOther_ 53 = .ok (.iload_n 3, 1) := by decide +kernel
theorem dX8_isOther__54 : decode cX8_isOther_ 54 = .ok (.aload_n 0, 1) := by decide +kernel
theorem dX8_isOther__55 : decode cX8_isOther_ 55 = .ok (.iload_n 2, 1) := by decide +kernel
theorem dX8_isOther__56 : decode cX8_isOther_ 56 = .ok (.invokevirtual 301, 3) := by decide +kernel
theorem dX8_isOther__59 : decode cX8_isOther_ 59 = .ok (.if_icmp .ge 26, 3) := by decide +kernel
theorem dX8_isOther__62 : decode cX8_isOther_ 62 = .ok (.aload_n 0, 1) := by decide +kernel
theorem dX8_isOther__63 : decode cX8_isOther_ 63 = .ok (.getfield 91, 3) := by decide +kernel
theorem dX8_isOther__66 : decode cX8_isOther_ 66 = .ok (.iload_n 3, 1) := by decide +kernel
theorem dX8_isOther__67 : decode cX8_isOther_ 67 = .ok (.iaload, 1) := by decide +kernel
theorem dX8_isOther__68 : decode cX8_isOther_ 68 = .ok (.aload_n 0, 1) := by decide +kernel
theorem dX8_isOther__69 : decode cX8_isOther_ 69 = .ok (.getfield 88, 3) := by decide +kernel
theorem dX8_isOther__72 : decode cX8_isOther_ 72 = .ok (.iload_n 3, 1) := by decide +kernel
theorem dX8_isOther__73 : decode cX8_isOther_ 73 = .ok (.iaload, 1) := by decide +kernel
theorem dX8_isOther__74 : decode cX8_isOther_ 74 = .ok (.if_icmp .eq 5, 3) := by decide +kernel
theorem dX8_isOther__77 : decode cX8_isOther_ 77 = .ok (.iconst 1, 1) := by decide +kernel
theorem dX8_isOther__78 : decode cX8_isOther_ 78 = .ok (.ireturn, 1) := by decide +kernel
theorem dX8_isOther__79 : decode cX8_isOther_ 79 = .ok (.iinc 3 1, 3) := by decide +kernel
theorem dX8_isOther__82 : decode cX8_isOther_ 82 = .ok (.goto (-29), 3) := by decide +kernel
theorem dX8_isOther__85 : decode cX8_isOther_ 85 = .ok (.iconst 0, 1) := by decide +kernel
theorem dX8_isOther__86 : decode cX8_isOther_ 86 = .ok (.ireturn, 1) := by decide +kernel
theorem dX8_matters_0 : decode cX8_matters 0 = .ok (.aload_n 0, 1) := by decide +kernel
theorem dX8_matters_1 : decode cX8_matters 1 = .ok (.iconst 0, 1) := by decide +kernel
theorem dX8_matters_2 : decode cX8_matters 2 = .ok (.putfield 112, 3) := by decide +kernel
theorem dX8_matters_5 : decode cX8_matters 5 = .ok (.aload_n 0, 1) := by decide +kernel
theorem dX8_matters_6 : decode cX8_matters 6 = .ok (.iload_n 1, 1) := by decide +kernel
theorem dX8_matters_7 : decode cX8_matters 7 = .ok (.invokevirtual 387, 3) := by decide +kernel
theorem dX8_matters_10 : decode cX8_matters 10 = .ok (.ifCond .ne 5, 3) := by decide +kernel
theorem dX8_matters_13 : decode cX8_matters 13 = .ok (.iconst (-1), 1) := by decide +kernel
theorem dX8_matters_14 : decode cX8_matters 14 = .ok (.ireturn, 1) := by decide +kernel
theorem dX8_matters_15 : decode cX8_matters 15 = .ok (.iconst 0, 1) := by decide +kernel
theorem dX8_matters_16 : decode cX8_matters 16 = .ok (.istore_n 2, 1) := by decide +kernel
theorem dX8_matters_17 : decode cX8_matters 17 = .ok (.iconst 0, 1) := by decide +kernel
theorem dX8_matters_18 : decode cX8_matters 18 = .ok (.istore_n 3, 1) := by decide +kernel
theorem dX8_matters_19 : decode cX8_matters 19 = .ok (.iload_n 3, 1) := by decide +kernel
theorem dX8_matters_20 : decode cX8_matters 20 = .ok (.aload_n 0, 1) := by decide +kernel
theorem dX8_matters_21 : decode cX8_matters 21 = .ok (.getfield 192, 3) := by decide +kernel
theorem dX8_matters_24 : decode cX8_matters 24 = .ok (.if_icmp .ge 28, 3) := by decide +kernel
theorem dX8_matters_27 : decode cX8_matters 27 = .ok (.iload_n 2, 1) := by decide +kernel
theorem dX8_matters_28 : decode cX8_matters 28 = .ok (.aload_n 0, 1) := by decide +kernel
theorem dX8_matters_29 : decode cX8_matters 29 = .ok (.iload_n 1, 1) := by decide +kernel
theorem dX8_matters_30 : decode cX8_matters 30 = .ok (.iload_n 3, 1) := by decide +kernel
theorem dX8_matters_31 : decode cX8_matters 31 = .ok (.invokevirtual 398, 3) := by decide +kernel
theorem dX8_matters_34 : decode cX8_matters 34 = .ok (.ifCond .eq 9, 3) := by decide +kernel
theorem dX8_matters_37 : decode cX8_matters 37 = .ok (.iconst 1, 1) := by decide +kernel
theorem dX8_matters_38 : decode cX8_matters 38 = .ok (.iload_n 3, 1) := by decide +kernel
theorem dX8_matters_39 : decode cX8_matters 39 = .ok (.ishl, 1) := by decide +kernel
theorem dX8_matters_40 : decode cX8_matters 40 = .ok (.goto 4, 3) := by decide +kernel
theorem dX8_matters_43 : decode cX8_matters 43 = .ok (.iconst 0, 1) := by decide +kernel
theorem dX8_matters_44 : decode cX8_matters 44 = .ok (.ior, 1) := by decide +kernel
theorem dX8_matters_45 : decode cX8_matters 45 = .ok (.istore_n 2, 1) := by decide +kernel
theorem dX8_matters_46 : decode cX8_matters 46 = .ok (.iinc 3 1, 3) := by decide +kernel
theorem dX8_matters_49 : decode cX8_matters 49 = .ok (.goto (-30), 3) := by decide +kernel
theorem dX8_matters_52 : decode cX8_matters 52 = .ok (.iload_n 2, 1) := by decide +kernel
theorem dX8_matters_53 : decode cX8_matters 53 = .ok (.ireturn, 1) := by decide +kernel
theorem dX8_earned_0 : decode cX8_earned 0 = .ok (.lconst 0, 1) := by decide +kernel
theorem dX8_earned_1 : decode cX8_earned 1 = .ok (.lstore_n 3, 1) := by decide +kernel
theorem dX8_earned_2 : decode cX8_earned 2 = .ok (.iconst 0, 1) := by decide +kernel
theorem dX8_earned_3 : decode cX8_earned 3 = .ok (.istore 5, 2) := by decide +kernel
theorem dX8_earned_5 : decode cX8_earned 5 = .ok (.iload 5, 2) := by decide +kernel
theorem dX8_earned_7 : decode cX8_earned 7 = .ok (.aload_n 0, 1) := by decide +kernel
theorem dX8_earned_8 : decode cX8_earned 8 = .ok (.getfield 192, 3) := by decide +kernel
theorem dX8_earned_11 : decode cX8_earned 11 = .ok (.if_icmp .ge 75, 3) := by decide +kernel
theorem dX8_earned_14 : decode cX8_earned 14 = .ok (.aload_n 0, 1) := by decide +kernel
theorem dX8_earned_15 : decode cX8_earned 15 = .ok (.iload 5, 2) := by decide +kernel
theorem dX8_earned_17 : decode cX8_earned 17 = .ok (.aload_n 0, 1) := by decide +kernel
theorem dX8_earned_18 : decode cX8_earned 18 = .ok (.getfield 25, 3) := by decide +kernel
theorem dX8_earned_21 : decode cX8_earned 21 = .ok (.iconst 4, 1) := by decide +kernel
theorem dX8_earned_22 : decode cX8_earned 22 = .ok (.iload 5, 2) := by decide +kernel
theorem dX8_earned_24 : decode cX8_earned 24 = .ok (.imul, 1) := by decide +kernel
theorem dX8_earned_25 : decode cX8_earned 25 = .ok (.iconst 1, 1) := by decide +kernel
theorem dX8_earned_26 : decode cX8_earned 26 = .ok (.iadd, 1) := by decide +kernel
theorem dX8_earned_27 : decode cX8_earned 27 = .ok (.iaload, 1) := by decide +kernel
theorem dX8_earned_28 : decode cX8_earned 28 = .ok (.iload_n 2, 1) := by decide +kernel
theorem dX8_earned_29 : decode cX8_earned 29 = .ok (.iconst 0, 1) := by decide +kernel
theorem dX8_earned_30 : decode cX8_earned 30 = .ok (.invokevirtual 383, 3) := by decide +kernel
theorem dX8_earned_33 : decode cX8_earned 33 = .ok (.iconst 0, 1) := by decide +kernel
theorem dX8_earned_34 : decode cX8_earned 34 = .ok (.istore 6, 2) := by decide +kernel
theorem dX8_earned_36 : decode cX8_earned 36 = .ok (.iload 6, 2) := by decide +kernel
theorem dX8_earned_38 : decode cX8_earned 38 = .ok (.aload_n 0, 1) := by decide +kernel
theorem dX8_earned_39 : decode cX8_earned 39 = .ok (.iload 5, 2) := by decide +kernel
theorem dX8_earned_41 : decode cX8_earned 41 = .ok (.invokevirtual 301, 3) := by decide +kernel
theorem dX8_earned_44 : decode cX8_earned 44 = .ok (.if_icmp .ge 36, 3) := by decide +kernel
theorem dX8_earned_47 : decode cX8_earned 47 = .ok (.lload_n 3, 1) := by decide +kernel
theorem dX8_earned_48 : decode cX8_earned 48 = .ok (.aload_n 0, 1) := by decide +kernel
theorem dX8_earned_49 : decode cX8_earned 49 = .ok (.iload 5, 2) := by decide +kernel
theorem dX8_earned_51 : decode cX8_earned 51 = .ok (.iload 6, 2) := by decide +kernel
theorem dX8_earned_53 : decode cX8_earned 53 = .ok (.invokevirtual 321, 3) := by decide +kernel
theorem dX8_earned_56 : decode cX8_earned 56 = .ok (.iload_n 1, 1) := by decide +kernel
theorem dX8_earned_57 : decode cX8_earned 57 = .ok (.if_icmp .ne 14, 3) := by decide +kernel
theorem dX8_earned_60 : decode cX8_earned 60 = .ok (.aload_n 0, 1) := by decide +kernel
theorem dX8_earned_61 : decode cX8_earned 61 = .ok (.getfield 88, 3) := by decide +kernel
theorem dX8_earned_64 : decode cX8_earned 64 = .ok (.iload 6, 2) := by decide +kernel
theorem dX8_earned_66 : decode cX8_earned 66 = .ok (.iaload, 1) := by decide +kernel
theorem dX8_earned_67 : decode cX8_earned 67 = .ok (.i2l, 1) := by decide +kernel
theorem dX8_earned_68 : decode cX8_earned 68 = .ok (.goto 4, 3) := by decide +kernel
theorem dX8_earned_71 : decode cX8_earned 71 = .ok (.lconst 0, 1) := by decide +kernel
theorem dX8_earned_72 : decode cX8_earned 72 = .ok (.ladd, 1) := by decide +kernel
theorem dX8_earned_73 : decode cX8_earned 73 = .ok (.lstore_n 3, 1) := by decide +kernel
theorem dX8_earned_74 : decode cX8_earned 74 = .ok (.iinc 6 1, 3) := by decide +kernel
theorem dX8_earned_77 : decode cX8_earned 77 = .ok (.goto (-41), 3) := by decide +kernel
theorem dX8_earned_80 : decode cX8_earned 80 = .ok (.iinc 5 1, 3) := by decide +kernel
theorem dX8_earned_83 : decode cX8_earned 83 = .ok (.goto (-78), 3) := by decide +kernel
theorem dX8_earned_86 : decode cX8_earned 86 = .ok (.lload_n 3, 1) := by decide +kernel
theorem dX8_earned_87 : decode cX8_earned 87 = .ok (.lreturn, 1) := by decide +kernel
theorem dX8_harmed_0 : decode cX8_harmed 0 = .ok (.aload_n 0, 1) := by decide +kernel
theorem dX8_harmed_1 : decode cX8_harmed 1 = .ok (.iconst 0, 1) := by decide +kernel
theorem dX8_harmed_2 : decode cX8_harmed 2 = .ok (.putfield 112, 3) := by decide +kernel
theorem dX8_harmed_5 : decode cX8_harmed 5 = .ok (.aload_n 0, 1) := by decide +kernel
theorem dX8_harmed_6 : decode cX8_harmed 6 = .ok (.iload_n 1, 1) := by decide +kernel
theorem dX8_harmed_7 : decode cX8_harmed 7 = .ok (.invokevirtual 387, 3) := by decide +kernel
theorem dX8_harmed_10 : decode cX8_harmed 10 = .ok (.ifCond .eq 12, 3) := by decide +kernel
theorem dX8_harmed_13 : decode cX8_harmed 13 = .ok (.iload_n 2, 1) := by decide +kernel
theorem dX8_harmed_14 : decode cX8_harmed 14 = .ok (.ifCond .lt 8, 3) := by decide +kernel
theorem dX8_harmed_17 : decode cX8_harmed 17 = .ok (.iload_n 2, 1) := by decide +kernel
theorem dX8_harmed_18 : decode cX8_harmed 18 = .ok (.iconst 3, 1) := by decide +kernel
theorem dX8_harmed_19 : decode cX8_harmed 19 = .ok (.if_icmp .le 5, 3) := by decide +kernel
theorem dX8_harmed_22 : decode cX8_harmed 22 = .ok (.iconst (-1), 1) := by decide +kernel
theorem dX8_harmed_23 : decode cX8_harmed 23 = .ok (.ireturn, 1) := by decide +kernel
theorem dX8_harmed_24 : decode cX8_harmed 24 = .ok (.bipush (-2), 2) := by decide +kernel
theorem dX8_harmed_26 : decode cX8_harmed 26 = .ok (.istore_n 3, 1) := by decide +kernel
theorem dX8_harmed_27 : decode cX8_harmed 27 = .ok (.lconst 0, 1) := by decide +kernel
theorem dX8_harmed_28 : decode cX8_harmed 28 = .ok (.lstore 4, 2) := by decide +kernel
theorem dX8_harmed_30 : decode cX8_harmed 30 = .ok (.iconst 0, 1) := by decide +kernel
theorem dX8_harmed_31 : decode cX8_harmed 31 = .ok (.istore 6, 2) := by decide +kernel
theorem dX8_harmed_33 : decode cX8_harmed 33 = .ok (.iload 6, 2) := by decide +kernel
theorem dX8_harmed_35 : decode cX8_harmed 35 = .ok (.aload_n 0, 1) := by decide +kernel
theorem dX8_harmed_36 : decode cX8_harmed 36 = .ok (.getfield 189, 3) := by decide +kernel
theorem dX8_harmed_39 : decode cX8_harmed 39 = .ok (.if_icmp .ge 60, 3) := by decide +kernel
theorem dX8_harmed_42 : decode cX8_harmed 42 = .ok (.aload_n 0, 1) := by decide +kernel
theorem dX8_harmed_43 : decode cX8_harmed 43 = .ok (.iload 6, 2) := by decide +kernel
theorem dX8_harmed_45 : decode cX8_harmed 45 = .ok (.iload_n 1, 1) := by decide +kernel
theorem dX8_harmed_46 : decode cX8_harmed 46 = .ok (.invokevirtual 400, 3) := by decide +kernel
theorem dX8_harmed_49 : decode cX8_harmed 49 = .ok (.aload_n 0, 1) := by decide +kernel
theorem dX8_harmed_50 : decode cX8_harmed 50 = .ok (.iload 6, 2) := by decide +kernel
theorem dX8_harmed_52 : decode cX8_harmed 52 = .ok (.bipush (-2), 2) := by decide +kernel
theorem dX8_harmed_54 : decode cX8_harmed 54 = .ok (.invokevirtual 400, 3) := by decide +kernel
theorem dX8_harmed_57 : decode cX8_harmed 57 = .ok (.lsub, 1) := by decide +kernel
theorem dX8_harmed_58 : decode cX8_harmed 58 = .ok (.lstore 7, 2) := by decide +kernel
theorem dX8_harmed_60 : decode cX8_harmed 60 = .ok (.iload_n 2, 1) := by decide +kernel
theorem dX8_harmed_61 : decode cX8_harmed 61 = .ok (.iconst 2, 1) := by decide +kernel
theorem dX8_harmed_62 : decode cX8_harmed 62 = .ok (.if_icmp .ge 8, 3) := by decide +kernel
theorem dX8_harmed_65 : decode cX8_harmed 65 = .ok (.lload 7, 2) := by decide +kernel
theorem dX8_harmed_67 : decode cX8_harmed 67 = .ok (.goto 6, 3) := by decide +kernel
theorem dX8_harmed_70 : decode cX8_harmed 70 = .ok (.lload 7, 2) := by decide +kernel
theorem dX8_harmed_72 : decode cX8_harmed 72 = .ok (.lneg, 1) := by decide +kernel
theorem dX8_harmed_73 : decode cX8_harmed 73 = .ok (.lstore 7, 2) := by decide +kernel
theorem dX8_harmed_75 : decode cX8_harmed 75 = .ok (.lload 7, 2) := by decide +kernel
theorem dX8_harmed_77 : decode cX8_harmed 77 = .ok (.lload 4, 2) := by decide +kernel
theorem dX8_harmed_79 : decode cX8_harmed 79 = .ok (.lcmp, 1) := by decide +kernel
theorem dX8_harmed_80 : decode cX8_harmed 80 = .ok (.ifCond .gt 6, 3) := by decide +kernel
theorem dX8_harmed_83 : decode cX8_harmed 83 = .ok (.goto 10, 3) := by decide +kernel
theorem dX8_harmed_86 : decode cX8_harmed 86 = .ok (.iload 6, 2) := by decide +kernel
theorem dX8_harmed_88 : decode cX8_harmed 88 = .ok (.istore_n 3, 1) := by decide +kernel
theorem dX8_harmed_89 : decode cX8_harmed 89 = .ok (.lload 7, 2) := by decide +kernel
theorem dX8_harmed_91 : decode cX8_harmed 91 = .ok (.lstore 4, 2) := by decide +kernel
theorem dX8_harmed_93 : decode cX8_harmed 93 = .ok (.iinc 6 1, 3) := by decide +kernel
theorem dX8_harmed_96 : decode cX8_harmed 96 = .ok (.goto (-63), 3) := by decide +kernel
theorem dX8_harmed_99 : decode cX8_harmed 99 = .ok (.iload_n 3, 1) := by decide +kernel
theorem dX8_harmed_100 : decode cX8_harmed 100 = .ok (.bipush (-2), 2) := by decide +kernel
theorem dX8_harmed_102 : decode cX8_harmed 102 = .ok (.if_icmp .eq 9, 3) := by decide +kernel
theorem dX8_harmed_105 : decode cX8_harmed 105 = .ok (.iload_n 2, 1) := by decide +kernel
theorem dX8_harmed_106 : decode cX8_harmed 106 = .ok (.iconst 2, 1) := by decide +kernel
theorem dX8_harmed_107 : decode cX8_harmed 107 = .ok (.irem, 1) := by decide +kernel
theorem dX8_harmed_108 : decode cX8_harmed 108 = .ok (.ifCond .ne 7, 3) := by decide +kernel
theorem dX8_harmed_111 : decode cX8_harmed 111 = .ok (.iload_n 3, 1) := by decide +kernel
theorem dX8_harmed_112 : decode cX8_harmed 112 = .ok (.goto 6, 3) := by decide +kernel
theorem dX8_harmed_115 : decode cX8_harmed 115 = .ok (.lload 4, 2) := by decide +kernel
theorem dX8_harmed_117 : decode cX8_harmed 117 = .ok (.l2i, 1) := by decide +kernel
theorem dX8_harmed_118 : decode cX8_harmed 118 = .ok (.ireturn, 1) := by decide +kernel
theorem dX8_keeps_0 : decode cX8_keeps 0 = .ok (.aload_n 0, 1) := by decide +kernel
theorem dX8_keeps_1 : decode cX8_keeps 1 = .ok (.getfield 287, 3) := by decide +kernel
theorem dX8_keeps_4 : decode cX8_keeps 4 = .ok (.bipush 14, 2) := by decide +kernel
theorem dX8_keeps_6 : decode cX8_keeps 6 = .ok (.if_icmp .ne 48, 3) := by decide +kernel
theorem dX8_keeps_9 : decode cX8_keeps 9 = .ok (.sipush 242, 3) := by decide +kernel
theorem dX8_keeps_12 : decode cX8_keeps 12 = .ok (.istore_n 1, 1) := by decide +kernel
theorem dX8_keeps_13 : decode cX8_keeps 13 = .ok (.iload_n 1, 1) := by decide +kernel
theorem dX8_keeps_14 : decode cX8_keeps 14 = .ok (.aload_n 0, 1) := by decide +kernel
theorem dX8_keeps_15 : decode cX8_keeps 15 = .ok (.getfield 40, 3) := by decide +kernel
theorem dX8_keeps_18 : decode cX8_keeps 18 = .ok (.arraylength, 1) := by decide +kernel
theorem dX8_keeps_19 : decode cX8_keeps 19 = .ok (.if_icmp .ge 25, 3) := by decide +kernel
theorem dX8_keeps_22 : decode cX8_keeps 22 = .ok (.aload_n 0, 1) := by decide +kernel
theorem dX8_keeps_23 : decode cX8_keeps 23 = .ok (.getfield 40, 3) := by decide +kernel
theorem dX8_keeps_26 : decode cX8_keeps 26 = .ok (.iload_n 1, 1) := by decide +kernel
theorem dX8_keeps_27 : decode cX8_keeps 27 = .ok (.sipush 242, 3) := by decide +kernel
theorem dX8_keeps_30 : decode cX8_keeps 30 = .ok (.isub, 1) := by decide +kernel
theorem dX8_keeps_31 : decode cX8_keeps 31 = .ok (.aload_n 0, 1) := by decide +kernel
theorem dX8_keeps_32 : decode cX8_keeps 32 = .ok (.getfield 40, 3) := by decide +kernel
theorem dX8_keeps_35 : decode cX8_keeps 35 = .ok (.iload_n 1, 1) := by decide +kernel
theorem dX8_keeps_36 : decode cX8_keeps 36 = .ok (.iaload, 1) := by decide +kernel
theorem dX8_keeps_37 : decode cX8_keeps 37 = .ok (.iastore, 1) := by decide +kernel
theorem dX8_keeps_38 : decode cX8_keeps 38 = .ok (.iinc 1 1, 3) := by decide +kernel
theorem dX8_keeps_41 : decode cX8_keeps 41 = .ok (.goto (-28), 3) := by decide +kernel
theorem dX8_keeps_44 : decode cX8_keeps 44 = .ok (.aload_n 0, 1) := by decide +kernel
theorem dX8_keeps_45 : decode cX8_keeps 45 = .ok (.dup, 1) := by decide +kernel
theorem dX8_keeps_46 : decode cX8_keeps 46 = .ok (.getfield 287, 3) := by decide +kernel
theorem dX8_keeps_49 : decode cX8_keeps 49 = .ok (.iconst 1, 1) := by decide +kernel
theorem dX8_keeps_50 : decode cX8_keeps 50 = .ok (.isub, 1) := by decide +kernel
theorem dX8_keeps_51 : decode cX8_keeps 51 = .ok (.putfield 287, 3) := by decide +kernel
theorem dX8_keeps_54 : decode cX8_keeps 54 = .ok (.iconst 0, 1) := by decide +kernel
theorem dX8_keeps_55 : decode cX8_keeps 55 = .ok (.istore_n 1, 1) := by decide +kernel
theorem dX8_keeps_56 : decode cX8_keeps 56 = .ok (.iload_n 1, 1) := by decide +kernel
theorem dX8_keeps_57 : decode cX8_keeps 57 = .ok (.sipush 242, 3) := by decide +kernel
theorem dX8_keeps_60 : decode cX8_keeps 60 = .ok (.if_icmp .ge 30, 3) := by decide +kernel
theorem dX8_keeps_63 : decode cX8_keeps 63 = .ok (.aload_n 0, 1) := by decide +kernel
theorem dX8_keeps_64 : decode cX8_keeps 64 = .ok (.getfield 40, 3) := by decide +kernel
theorem dX8_keeps_67 : decode cX8_keeps 67 = .ok (.sipush 242, 3) := by decide +kernel
theorem dX8_keeps_70 : decode cX8_keeps 70 = .ok (.aload_n 0, 1) := by decide +kernel
theorem dX8_keeps_71 : decode cX8_keeps 71 = .ok (.getfield 287, 3) := by decide +kernel
theorem dX8_keeps_74 : decode cX8_keeps 74 = .ok (.imul, 1) := by decide +kernel
theorem dX8_keeps_75 : decode cX8_keeps 75 = .ok (.iload_n 1, 1) := by decide +kernel
theorem dX8_keeps_76 : decode cX8_keeps 76 = .ok (.iadd, 1) := by decide +kernel
theorem dX8_keeps_77 : decode cX8_keeps 77 = .ok (.aload_n 0, 1) := by decide +kernel
theorem dX8_keeps_78 : decode cX8_keeps 78 = .ok (.getfield 37, 3) := by decide +kernel
theorem dX8_keeps_81 : decode cX8_keeps 81 = .ok (.iload_n 1, 1) := by decide +kernel
theorem dX8_keeps_82 : decode cX8_keeps 82 = .ok (.iaload, 1) := by decide +kernel
theorem dX8_keeps_83 : decode cX8_keeps 83 = .ok (.iastore, 1) := by decide +kernel
theorem dX8_keeps_84 : decode cX8_keeps 84 = .ok (.iinc 1 1, 3) := by decide +kernel
theorem dX8_keeps_87 : decode cX8_keeps 87 = .ok (.goto (-31), 3) := by decide +kernel
theorem dX8_keeps_90 : decode cX8_keeps 90 = .ok (.aload_n 0, 1) := by decide +kernel
theorem dX8_keeps_91 : decode cX8_keeps 91 = .ok (.dup, 1) := by decide +kernel
theorem dX8_keeps_92 : decode cX8_keeps 92 = .ok (.getfield 287, 3) := by decide +kernel
theorem dX8_keeps_95 : decode cX8_keeps 95 = .ok (.iconst 1, 1) := by decide +kernel
theorem dX8_keeps_96 : decode cX8_keeps 96 = .ok (.iadd, 1) := by decide +kernel
theorem dX8_keeps_97 : decode cX8_keeps 97 = .ok (.putfield 287, 3) := by decide +kernel
theorem dX8_keeps_100 : decode cX8_keeps 100 = .ok (.return_, 1) := by decide +kernel
theorem dX8_undo_0 : decode cX8_undo 0 = .ok (.aload_n 0, 1) := by decide +kernel
theorem dX8_undo_1 : decode cX8_undo 1 = .ok (.iconst 0, 1) := by decide +kernel
theorem dX8_undo_2 : decode cX8_undo 2 = .ok (.putfield 112, 3) := by decide +kernel
theorem dX8_undo_5 : decode cX8_undo 5 = .ok (.aload_n 0, 1) := by decide +kernel
theorem dX8_undo_6 : decode cX8_undo 6 = .ok (.getfield 287, 3) := by decide +kernel
theorem dX8_undo_9 : decode cX8_undo 9 = .ok (.ifCond .ne 5, 3) := by decide +kernel
theorem dX8_undo_12 : decode cX8_undo 12 = .ok (.iconst (-1), 1) := by decide +kernel
theorem dX8_undo_13 : decode cX8_undo 13 = .ok (.ireturn, 1) := by decide +kernel
theorem dX8_undo_14 : decode cX8_undo 14 = .ok (.aload_n 0, 1) := by decide +kernel
theorem dX8_undo_15 : decode cX8_undo 15 = .ok (.dup, 1) := by decide +kernel
theorem dX8_undo_16 : decode cX8_undo 16 = .ok (.getfield 287, 3) := by decide +kernel
theorem dX8_undo_19 : decode cX8_undo 19 = .ok (.iconst 1, 1) := by decide +kernel
theorem dX8_undo_20 : decode cX8_undo 20 = .ok (.isub, 1) := by decide +kernel
theorem dX8_undo_21 : decode cX8_undo 21 = .ok (.putfield 287, 3) := by decide +kernel
theorem dX8_undo_24 : decode cX8_undo 24 = .ok (.iconst 0, 1) := by decide +kernel
theorem dX8_undo_25 : decode cX8_undo 25 = .ok (.istore_n 1, 1) := by decide +kernel
theorem dX8_undo_26 : decode cX8_undo 26 = .ok (.iload_n 1, 1) := by decide +kernel
theorem dX8_undo_27 : decode cX8_undo 27 = .ok (.sipush 242, 3) := by decide +kernel
theorem dX8_undo_30 : decode cX8_undo 30 = .ok (.if_icmp .ge 30, 3) := by decide +kernel
theorem dX8_undo_33 : decode cX8_undo 33 = .ok (.aload_n 0, 1) := by decide +kernel
theorem dX8_undo_34 : decode cX8_undo 34 = .ok (.getfield 37, 3) := by decide +kernel
theorem dX8_undo_37 : decode cX8_undo 37 = .ok (.iload_n 1, 1) := by decide +kernel
theorem dX8_undo_38 : decode cX8_undo 38 = .ok (.aload_n 0, 1) := by decide +kernel
theorem dX8_undo_39 : decode cX8_undo 39 = .ok (.getfield 40, 3) := by decide +kernel
theorem dX8_undo_42 : decode cX8_undo 42 = .ok (.sipush 242, 3) := by decide +kernel
theorem dX8_undo_45 : decode cX8_undo 45 = .ok (.aload_n 0, 1) := by decide +kernel
theorem dX8_undo_46 : decode cX8_undo 46 = .ok (.getfield 287, 3) := by decide +kernel
theorem dX8_undo_49 : decode cX8_undo 49 = .ok (.imul, 1) := by decide +kernel
theorem dX8_undo_50 : decode cX8_undo 50 = .ok (.iload_n 1, 1) := by decide +kernel
theorem dX8_undo_51 : decode cX8_undo 51 = .ok (.iadd, 1) := by decide +kernel
theorem dX8_undo_52 : decode cX8_undo 52 = .ok (.iaload, 1) := by decide +kernel
theorem dX8_undo_53 : decode cX8_undo 53 = .ok (.iastore, 1) := by decide +kernel
theorem dX8_undo_54 : decode cX8_undo 54 = .ok (.iinc 1 1, 3) := by decide +kernel
theorem dX8_undo_57 : decode cX8_undo 57 = .ok (.goto (-31), 3) := by decide +kernel
theorem dX8_undo_60 : decode cX8_undo 60 = .ok (.aload_n 0, 1) := by decide +kernel
theorem dX8_undo_61 : decode cX8_undo 61 = .ok (.getfield 287, 3) := by decide +kernel
theorem dX8_undo_64 : decode cX8_undo 64 = .ok (.ireturn, 1) := by decide +kernel
theorem dX8_firstToFly_0 : decode cX8_firstToFly 0 = .ok (.iconst 0, 1) := by decide +kernel
theorem dX8_firstToFly_1 : decode cX8_firstToFly 1 = .ok (.istore_n 2, 1) := by decide +kernel
theorem dX8_firstToFly_2 : decode cX8_firstToFly 2 = .ok (.iload_n 2, 1) := by decide +kernel
theorem dX8_firstToFly_3 : decode cX8_firstToFly 3 = .ok (.aload_n 0, 1) := by decide +kernel
theorem dX8_firstToFly_4 : decode cX8_firstToFly 4 = .ok (.iload_n 1, 1) := by decide +kernel
theorem dX8_firstToFly_5 : decode cX8_firstToFly 5 = .ok (.invokevirtual 301, 3) := by decide +kernel
theorem dX8_firstToFly_8 : decode cX8_firstToFly 8 = .ok (.if_icmp .ge 18, 3) := by decide +kernel
theorem dX8_firstToFly_11 : decode cX8_firstToFly 11 = .ok (.aload_n 0, 1) := by decide +kernel
theorem dX8_firstToFly_12 : decode cX8_firstToFly 12 = .ok (.iload_n 1, 1) := by decide +kernel
theorem dX8_firstToFly_13 : decode cX8_firstToFly 13 = .ok (.iload_n 2, 1) := by decide +kernel
theorem dX8_firstToFly_14 : decode cX8_firstToFly 14 = .ok (.invokevirtual 345, 3) := by decide +kernel
theorem dX8_firstToFly_17 : decode cX8_firstToFly 17 = .ok (.ifCond .eq 9, 3) := by decide +kernel
theorem dX8_firstToFly_20 : decode cX8_firstToFly 20 = .ok (.iinc 2 1, 3) := by decide +kernel
theorem dX8_firstToFly_23 : decode cX8_firstToFly 23 = .ok (.goto (-21), 3) := by decide +kernel
theorem dX8_firstToFly_26 : decode cX8_firstToFly 26 = .ok (.iload_n 2, 1) := by decide +kernel
theorem dX8_firstToFly_27 : decode cX8_firstToFly 27 = .ok (.ireturn, 1) := by decide +kernel
theorem dX8_fly_0 : decode cX8_fly 0 = .ok (.aload_n 0, 1) := by decide +kernel
theorem dX8_fly_1 : decode cX8_fly 1 = .ok (.iconst 0, 1) := by decide +kernel
theorem dX8_fly_2 : decode cX8_fly 2 = .ok (.putfield 112, 3) := by decide +kernel
theorem dX8_fly_5 : decode cX8_fly 5 = .ok (.aload_n 0, 1) := by decide +kernel
theorem dX8_fly_6 : decode cX8_fly 6 = .ok (.iload_n 1, 1) := by decide +kernel
theorem dX8_fly_7 : decode cX8_fly 7 = .ok (.iload_n 2, 1) := by decide +kernel
theorem dX8_fly_8 : decode cX8_fly 8 = .ok (.invokevirtual 393, 3) := by decide +kernel
theorem dX8_fly_11 : decode cX8_fly 11 = .ok (.ifCond .ne 5, 3) := by decide +kernel
theorem dX8_fly_14 : decode cX8_fly 14 = .ok (.iconst (-1), 1) := by decide +kernel
theorem dX8_fly_15 : decode cX8_fly 15 = .ok (.ireturn, 1) := by decide +kernel
theorem dX8_fly_16 : decode cX8_fly 16 = .ok (.aload_n 0, 1) := by decide +kernel
theorem dX8_fly_17 : decode cX8_fly 17 = .ok (.iload_n 1, 1) := by decide +kernel
theorem dX8_fly_18 : decode cX8_fly 18 = .ok (.iload_n 2, 1) := by decide +kernel
theorem dX8_fly_19 : decode cX8_fly 19 = .ok (.invokevirtual 345, 3) := by decide +kernel
theorem dX8_fly_22 : decode cX8_fly 22 = .ok (.ifCond .eq 6, 3) := by decide +kernel
theorem dX8_fly_25 : decode cX8_fly 25 = .ok (.bipush (-2), 2) := by decide +kernel
theorem dX8_fly_27 : decode cX8_fly 27 = .ok (.ireturn, 1) := by decide +kernel
theorem dX8_fly_28 : decode cX8_fly 28 = .ok (.aload_n 0, 1) := by decide +kernel
theorem dX8_fly_29 : decode cX8_fly 29 = .ok (.iload_n 1, 1) := by decide +kernel
theorem dX8_fly_30 : decode cX8_fly 30 = .ok (.invokevirtual 404, 3) := by decide +kernel
theorem dX8_fly_33 : decode cX8_fly 33 = .ok (.ifCond .eq 6, 3) := by decide +kernel
theorem dX8_fly_36 : decode cX8_fly 36 = .ok (.bipush (-3), 2) := by decide +kernel
theorem dX8_fly_38 : decode cX8_fly 38 = .ok (.ireturn, 1) := by decide +kernel
theorem dX8_fly_39 : decode cX8_fly 39 = .ok (.aload_n 0, 1) := by decide +kernel
theorem dX8_fly_40 : decode cX8_fly 40 = .ok (.iload_n 1, 1) := by decide +kernel
theorem dX8_fly_41 : decode cX8_fly 41 = .ok (.invokevirtual 407, 3) := by decide +kernel
theorem dX8_fly_44 : decode cX8_fly 44 = .ok (.iload_n 2, 1) := by decide +kernel
theorem dX8_fly_45 : decode cX8_fly 45 = .ok (.if_icmp .eq 6, 3) := by decide +kernel
theorem dX8_fly_48 : decode cX8_fly 48 = .ok (.bipush (-4), 2) := by decide +kernel
theorem dX8_fly_50 : decode cX8_fly 50 = .ok (.ireturn, 1) := by decide +kernel
theorem dX8_fly_51 : decode cX8_fly 51 = .ok (.aload_n 0, 1) := by decide +kernel
theorem dX8_fly_52 : decode cX8_fly 52 = .ok (.iload_n 1, 1) := by decide +kernel
theorem dX8_fly_53 : decode cX8_fly 53 = .ok (.invokevirtual 396, 3) := by decide +kernel
theorem dX8_fly_56 : decode cX8_fly 56 = .ok (.aload_n 0, 1) := by decide +kernel
theorem dX8_fly_57 : decode cX8_fly 57 = .ok (.invokevirtual 410, 3) := by decide +kernel
theorem dX8_fly_60 : decode cX8_fly 60 = .ok (.aload_n 0, 1) := by decide +kernel
theorem dX8_fly_61 : decode cX8_fly 61 = .ok (.iload_n 1, 1) := by decide +kernel
theorem dX8_fly_62 : decode cX8_fly 62 = .ok (.iload_n 2, 1) := by decide +kernel
theorem dX8_fly_63 : decode cX8_fly 63 = .ok (.invokevirtual 321, 3) := by decide +kernel
theorem dX8_fly_66 : decode cX8_fly 66 = .ok (.istore_n 3, 1) := by decide +kernel
theorem dX8_fly_67 : decode cX8_fly 67 = .ok (.aload_n 0, 1) := by decide +kernel
theorem dX8_fly_68 : decode cX8_fly 68 = .ok (.getfield 25, 3) := by decide +kernel
theorem dX8_fly_71 : decode cX8_fly 71 = .ok (.iconst 4, 1) := by decide +kernel
theorem dX8_fly_72 : decode cX8_fly 72 = .ok (.iload_n 1, 1) := by decide +kernel
theorem dX8_fly_73 : decode cX8_fly 73 = .ok (.imul, 1) := by decide +kernel
theorem dX8_fly_74 : decode cX8_fly 74 = .ok (.iconst 3, 1) := by decide +kernel
theorem dX8_fly_75 : decode cX8_fly 75 = .ok (.iadd, 1) := by decide +kernel
theorem dX8_fly_76 : decode cX8_fly 76 = .ok (.iaload, 1) := by decide +kernel
theorem dX8_fly_77 : decode cX8_fly 77 = .ok (.istore 4, 2) := by decide +kernel
theorem dX8_fly_79 : decode cX8_fly 79 = .ok (.aload_n 0, 1) := by decide +kernel
theorem dX8_fly_80 : decode cX8_fly 80 = .ok (.getfield 37, 3) := by decide +kernel
theorem dX8_fly_83 : decode cX8_fly 83 = .ok (.bipush 64, 2) := by decide +kernel
theorem dX8_fly_85 : decode cX8_fly 85 = .ok (.bipush 8, 2) := by decide +kernel
theorem dX8_fly_87 : decode cX8_fly 87 = .ok (.iload_n 1, 1) := by decide +kernel
theorem dX8_fly_88 : decode cX8_fly 88 = .ok (.imul, 1) := by decide +kernel
theorem dX8_fly_89 : decode cX8_fly 89 = .ok (.iadd, 1) := by decide +kernel
theorem dX8_fly_90 : decode cX8_fly 90 = .ok (.iload_n 2, 1) := by decide +kernel
theorem dX8_fly_91 : decode cX8_fly 91 = .ok (.iadd, 1) := by decide +kernel
theorem dX8_fly_92 : decode cX8_fly 92 = .ok (.iconst 1, 1) := by decide +kernel
theorem dX8_fly_93 : decode cX8_fly 93 = .ok (.iastore, 1) := by decide +kernel
theorem dX8_fly_94 : decode cX8_fly 94 = .ok (.aload_n 0, 1) := by decide +kernel
theorem dX8_fly_95 : decode cX8_fly 95 = .ok (.getfield 37, 3) := by decide +kernel
theorem dX8_fly_98 : decode cX8_fly 98 = .ok (.sipush 128, 3) := by decide +kernel
theorem dX8_fly_101 : decode cX8_fly 101 = .ok (.bipush 8, 2) := by decide +kernel
theorem dX8_fly_103 : decode cX8_fly 103 = .ok (.iload_n 1, 1) := by decide +kernel
theorem dX8_fly_104 : decode cX8_fly 104 = .ok (.imul, 1) := by decide +kernel
theorem dX8_fly_105 : decode cX8_fly 105 = .ok (.iadd, 1) := by decide +kernel
theorem dX8_fly_106 : decode cX8_fly 106 = .ok (.iload_n 2, 1) := by decide +kernel
theorem dX8_fly_107 : decode cX8_fly 107 = .ok (.iadd, 1) := by decide +kernel
theorem dX8_fly_108 : decode cX8_fly 108 = .ok (.aload_n 0, 1) := by decide +kernel
theorem dX8_fly_109 : decode cX8_fly 109 = .ok (.getfield 88, 3) := by decide +kernel
theorem dX8_fly_112 : decode cX8_fly 112 = .ok (.iload_n 2, 1) := by decide +kernel
theorem dX8_fly_113 : decode cX8_fly 113 = .ok (.iaload, 1) := by decide +kernel
theorem dX8_fly_114 : decode cX8_fly 114 = .ok (.iastore, 1) := by decide +kernel
theorem dX8_fly_115 : decode cX8_fly 115 = .ok (.iload_n 3, 1) := by decide +kernel
theorem dX8_fly_116 : decode cX8_fly 116 = .ok (.iload 4, 2) := by decide +kernel
theorem dX8_fly_118 : decode cX8_fly 118 = .ok (.if_icmp .eq 28, 3) := by decide +kernel
theorem dX8_fly_121 : decode cX8_fly 121 = .ok (.aload_n 0, 1) := by decide +kernel
theorem dX8_fly_122 : decode cX8_fly 122 = .ok (.getfield 37, 3) := by decide +kernel
theorem dX8_fly_125 : decode cX8_fly 125 = .ok (.sipush 192, 3) := by decide +kernel
theorem dX8_fly_128 : decode cX8_fly 128 = .ok (.bipush 6, 2) := by decide +kernel
theorem dX8_fly_130 : decode cX8_fly 130 = .ok (.iload_n 3, 1) := by decide +kernel
theorem dX8_fly_131 : decode cX8_fly 131 = .ok (.imul, 1) := by decide +kernel
theorem dX8_fly_132 : decode cX8_fly 132 = .ok (.iadd, 1) := by decide +kernel
theorem dX8_fly_133 : decode cX8_fly 133 = .ok (.iload 4, 2) := by decide +kernel
theorem dX8_fly_135 : decode cX8_fly 135 = .ok (.iadd, 1) := by decide +kernel
theorem dX8_fly_136 : decode cX8_fly 136 = .ok (.dup2, 1) := by decide +kernel
theorem dX8_fly_137 : decode cX8_fly 137 = .ok (.iaload, 1) := by decide +kernel
theorem dX8_fly_138 : decode cX8_fly 138 = .ok (.aload_n 0, 1) := by decide +kernel
theorem dX8_fly_139 : decode cX8_fly 139 = .ok (.getfield 88, 3) := by decide +kernel
theorem dX8_fly_142 : decode cX8_fly 142 = .ok (.iload_n 2, 1) := by decide +kernel
theorem dX8_fly_143 : decode cX8_fly 143 = .ok (.iaload, 1) := by decide +kernel
theorem dX8_fly_144 : decode cX8_fly 144 = .ok (.iadd, 1) := by decide +kernel
theorem dX8_fly_145 : decode cX8_fly 145 = .ok (.iastore, 1) := by decide +kernel
theorem dX8_fly_146 : decode cX8_fly 146 = .ok (.aload_n 0, 1) := by decide +kernel
theorem dX8_fly_147 : decode cX8_fly 147 = .ok (.getfield 88, 3) := by decide +kernel
theorem dX8_fly_150 : decode cX8_fly 150 = .ok (.iload_n 2, 1) := by decide +kernel
theorem dX8_fly_151 : decode cX8_fly 151 = .ok (.iaload, 1) := by decide +kernel
theorem dX8_fly_152 : decode cX8_fly 152 = .ok (.ireturn, 1) := by decide +kernel
theorem dX8_whyNotEndorsed_0 : decode cX8_whyNotEndorsed 0 = .ok (.aload_n 0, 1) := by decide +kernel
theorem dX8_whyNotEndorsed_1 : decode cX8_whyNotEndorsed 1 = .ok (.iload_n 1, 1) := by decide +kernel
theorem dX8_whyNotEndorsed_2 : decode cX8_whyNotEndorsed 2 = .ok (.iload_n 2, 1) := by decide +kernel
theorem dX8_whyNotEndorsed_3 : decode cX8_whyNotEndorsed 3 = .ok (.invokevirtual 393, 3) := by decide +kernel
theorem dX8_whyNotEndorsed_6 : decode cX8_whyNotEndorsed 6 = .ok (.ifCond .eq 11, 3) := by decide +kernel
theorem dX8_whyNotEndorsed_9 : decode cX8_whyNotEndorsed 9 = .ok (.aload_n 0, 1) := by decide +kernel
theorem dX8_whyNotEndorsed_10 : decode cX8_whyNotEndorsed 10 = .ok (.iload_n 3, 1) := by decide +kernel
theorem dX8_whyNotEndorsed_11 : decode cX8_whyNotEndorsed 11 = .ok (.invokevirtual 315, 3) := by decide +kernel
theorem dX8_whyNotEndorsed_14 : decode cX8_whyNotEndorsed 14 = .ok (.ifCond .ne 5, 3) := by decide +kernel
theorem dX8_whyNotEndorsed_17 : decode cX8_whyNotEndorsed 17 = .ok (.iconst (-1), 1) := by decide +kernel
theorem dX8_whyNotEndorsed_18 : decode cX8_whyNotEndorsed 18 = .ok (.ireturn, 1) := by decide +kernel
theorem dX8_whyNotEndorsed_19 : decode cX8_whyNotEndorsed 19 = .ok (.aload_n 0, 1) := by decide +kernel
theorem dX8_whyNotEndorsed_20 : decode cX8_whyNotEndorsed 20 = .ok (.iload_n 1, 1) := by decide +kernel
theorem dX8_whyNotEndorsed_21 : decode cX8_whyNotEndorsed 21 = .ok (.iload_n 2, 1) := by decide +kernel
theorem dX8_whyNotEndorsed_22 : decode cX8_whyNotEndorsed 22 = .ok (.invokevirtual 345, 3) := by decide +kernel
theorem dX8_whyNotEndorsed_25 : decode cX8_whyNotEndorsed 25 = .ok (.ifCond .eq 8, 3) := by decide +kernel
theorem dX8_whyNotEndorsed_28 : decode cX8_whyNotEndorsed 28 = .ok (.bipush (-2), 2) := by decide +kernel
theorem dX8_whyNotEndorsed_30 : decode cX8_whyNotEndorsed 30 = .ok (.goto 17, 3) := by decide +kernel
theorem dX8_whyNotEndorsed_33 : decode cX8_whyNotEndorsed 33 = .ok (.aload_n 0, 1) := by decide +kernel
theorem dX8_whyNotEndorsed_34 : decode cX8_whyNotEndorsed 34 = .ok (.iload_n 1, 1) := by decide +kernel
theorem dX8_whyNotEndorsed_35 : decode cX8_whyNotEndorsed 35 = .ok (.invokevirtual 404, 3) := by decide +kernel
theorem dX8_whyNotEndorsed_38 : decode cX8_whyNotEndorsed 38 = .ok (.ifCond .eq 8, 3) := by decide +kernel
theorem dX8_whyNotEndorsed_41 : decode cX8_whyNotEndorsed 41 = .ok (.bipush (-3), 2) := by decide +kernel
theorem dX8_whyNotEndorsed_43 : decode cX8_whyNotEndorsed 43 = .ok (.goto 4, 3) := by decide +kernel
theorem dX8_whyNotEndorsed_46 : decode cX8_whyNotEndorsed 46 = .ok (.iconst 0, 1) := by decide +kernel
theorem dX8_whyNotEndorsed_47 : decode cX8_whyNotEndorsed 47 = .ok (.ireturn, 1) := by decide +kernel
theorem dX8_endorse_0 : decode cX8_endorse 0 = .ok (.aload_n 0, 1) := by decide +kernel
theorem dX8_endorse_1 : decode cX8_endorse 1 = .ok (.iconst 0, 1) := by decide +kernel
theorem dX8_endorse_2 : decode cX8_endorse 2 = .ok (.putfield 112, 3) := by decide +kernel
theorem dX8_endorse_5 : decode cX8_endorse 5 = .ok (.aload_n 0, 1) := by decide +kernel
theorem dX8_endorse_6 : decode cX8_endorse 6 = .ok (.iload_n 1, 1) := by decide +kernel
theorem dX8_endorse_7 : decode cX8_endorse 7 = .ok (.iload_n 2, 1) := by decide +kernel
theorem dX8_endorse_8 : decode cX8_endorse 8 = .ok (.iload_n 3, 1) := by decide +kernel
theorem dX8_endorse_9 : decode cX8_endorse 9 = .ok (.invokevirtual 413, 3) := by decide +kernel
theorem dX8_endorse_12 : decode cX8_endorse 12 = .ok (.istore 4, 2) := by decide +kernel
theorem dX8_endorse_14 : decode cX8_endorse 14 = .ok (.iload 4, 2) := by decide +kernel
theorem dX8_endorse_16 : decode cX8_endorse 16 = .ok (.ifCond .ge 6, 3) := by decide +kernel
theorem dX8_endorse_19 : decode cX8_endorse 19 = .ok (.iload 4, 2) := by decide +kernel
theorem dX8_endorse_21 : decode cX8_endorse 21 = .ok (.ireturn, 1) := by decide +kernel
theorem dX8_endorse_22 : decode cX8_endorse 22 = .ok (.aload_n 0, 1) := by decide +kernel
theorem dX8_endorse_23 : decode cX8_endorse 23 = .ok (.iload_n 1, 1) := by decide +kernel
theorem dX8_endorse_24 : decode cX8_endorse 24 = .ok (.iload_n 2, 1) := by decide +kernel
theorem dX8_endorse_25 : decode cX8_endorse 25 = .ok (.invokevirtual 321, 3) := by decide +kernel
theorem dX8_endorse_28 : decode cX8_endorse 28 = .ok (.iload_n 3, 1) := by decide +kernel
theorem dX8_endorse_29 : decode cX8_endorse 29 = .ok (.if_icmp .ne 6, 3) := by decide +kernel
theorem dX8_endorse_32 : decode cX8_endorse 32 = .ok (.bipush (-4), 2) := by decide +kernel
theorem dX8_endorse_34 : decode cX8_endorse 34 = .ok (.ireturn, 1) := by decide +kernel
theorem dX8_endorse_35 : decode cX8_endorse 35 = .ok (.aload_n 0, 1) := by decide +kernel
theorem dX8_endorse_36 : decode cX8_endorse 36 = .ok (.invokevirtual 410, 3) := by decide +kernel
theorem dX8_endorse_39 : decode cX8_endorse 39 = .ok (.aload_n 0, 1) := by decide +kernel
theorem dX8_endorse_40 : decode cX8_endorse 40 = .ok (.getfield 37, 3) := by decide +kernel
theorem dX8_endorse_43 : decode cX8_endorse 43 = .ok (.iconst 0, 1) := by decide +kernel
theorem dX8_endorse_44 : decode cX8_endorse 44 = .ok (.bipush 8, 2) := by decide +kernel
theorem dX8_endorse_46 : decode cX8_endorse 46 = .ok (.iload_n 1, 1) := by decide +kernel
theorem dX8_endorse_47 : decode cX8_endorse 47 = .ok (.imul, 1) := by decide +kernel
theorem dX8_endorse_48 : decode cX8_endorse 48 = .ok (.iadd, 1) := by decide +kernel
theorem dX8_endorse_49 : decode cX8_endorse 49 = .ok (.iload_n 2, 1) := by decide +kernel
theorem dX8_endorse_50 : decode cX8_endorse 50 = .ok (.iadd, 1) := by decide +kernel
theorem dX8_endorse_51 : decode cX8_endorse 51 = .ok (.iload_n 3, 1) := by decide +kernel
theorem dX8_endorse_52 : decode cX8_endorse 52 = .ok (.iastore, 1) := by decide +kernel
theorem dX8_endorse_53 : decode cX8_endorse 53 = .ok (.aload_n 0, 1) := by decide +kernel
theorem dX8_endorse_54 : decode cX8_endorse 54 = .ok (.iload_n 1, 1) := by decide +kernel
theorem dX8_endorse_55 : decode cX8_endorse 55 = .ok (.invokevirtual 396, 3) := by decide +kernel
theorem dX8_endorse_58 : decode cX8_endorse 58 = .ok (.aload_n 0, 1) := by decide +kernel
theorem dX8_endorse_59 : decode cX8_endorse 59 = .ok (.getfield 88, 3) := by decide +kernel
theorem dX8_endorse_62 : decode cX8_endorse 62 = .ok (.iload_n 2, 1) := by decide +kernel
theorem dX8_endorse_63 : decode cX8_endorse 63 = .ok (.iaload, 1) := by decide +kernel
theorem dX8_endorse_64 : decode cX8_endorse 64 = .ok (.ireturn, 1) := by decide +kernel
theorem dX8_refund_0 : decode cX8_refund 0 = .ok (.aload_n 0, 1) := by decide +kernel
theorem dX8_refund_1 : decode cX8_refund 1 = .ok (.iconst 0, 1) := by decide +kernel
theorem dX8_refund_2 : decode cX8_refund 2 = .ok (.putfield 112, 3) := by decide +kernel
theorem dX8_refund_5 : decode cX8_refund 5 = .ok (.aload_n 0, 1) := by decide +kernel
theorem dX8_refund_6 : decode cX8_refund 6 = .ok (.iload_n 1, 1) := by decide +kernel
theorem dX8_refund_7 : decode cX8_refund 7 = .ok (.invokevirtual 298, 3) := by decide +kernel
theorem dX8_refund_10 : decode cX8_refund 10 = .ok (.ifCond .ne 5, 3) := by decide +kernel
theorem dX8_refund_13 : decode cX8_refund 13 = .ok (.iconst (-1), 1) := by decide +kernel
theorem dX8_refund_14 : decode cX8_refund 14 = .ok (.ireturn, 1) := by decide +kernel
theorem dX8_refund_15 : decode cX8_refund 15 = .ok (.aload_n 0, 1) := by decide +kernel
theorem dX8_refund_16 : decode cX8_refund 16 = .ok (.iload_n 1, 1) := by decide +kernel
theorem dX8_refund_17 : decode cX8_refund 17 = .ok (.invokevirtual 390, 3) := by decide +kernel
theorem dX8_refund_20 : decode cX8_refund 20 = .ok (.aload_n 0, 1) := by decide +kernel
theorem dX8_refund_21 : decode cX8_refund 21 = .ok (.iload_n 1, 1) := by decide +kernel
theorem dX8_refund_22 : decode cX8_refund 22 = .ok (.invokevirtual 301, 3) := by decide +kernel
theorem dX8_refund_25 : decode cX8_refund 25 = .ok (.if_icmp .ne 6, 3) := by decide +kernel
theorem dX8_refund_28 : decode cX8_refund 28 = .ok (.bipush (-2), 2) := by decide +kernel
theorem dX8_refund_30 : decode cX8_refund 30 = .ok (.ireturn, 1) := by decide +kernel
theorem dX8_refund_31 : decode cX8_refund 31 = .ok (.aload_n 0, 1) := by decide +kernel
theorem dX8_refund_32 : decode cX8_refund 32 = .ok (.iload_n 1, 1) := by decide +kernel
theorem dX8_refund_33 : decode cX8_refund 33 = .ok (.invokevirtual 404, 3) := by decide +kernel
theorem dX8_refund_36 : decode cX8_refund 36 = .ok (.ifCond .eq 6, 3) := by decide +kernel
theorem dX8_refund_39 : decode cX8_refund 39 = .ok (.bipush (-3), 2) := by decide +kernel
theorem dX8_refund_41 : decode cX8_refund 41 = .ok (.ireturn, 1) := by decide +kernel
theorem dX8_refund_42 : decode cX8_refund 42 = .ok (.aload_n 0, 1) := by decide +kernel
theorem dX8_refund_43 : decode cX8_refund 43 = .ok (.invokevirtual 410, 3) := by decide +kernel
theorem dX8_refund_46 : decode cX8_refund 46 = .ok (.aload_n 0, 1) := by decide +kernel
theorem dX8_refund_47 : decode cX8_refund 47 = .ok (.getfield 37, 3) := by decide +kernel
theorem dX8_refund_50 : decode cX8_refund 50 = .ok (.sipush 234, 3) := by decide +kernel
theorem dX8_refund_53 : decode cX8_refund 53 = .ok (.iload_n 1, 1) := by decide +kernel
theorem dX8_refund_54 : decode cX8_refund 54 = .ok (.iadd, 1) := by decide +kernel
theorem dX8_refund_55 : decode cX8_refund 55 = .ok (.iconst 1, 1) := by decide +kernel
theorem dX8_refund_56 : decode cX8_refund 56 = .ok (.iastore, 1) := by decide +kernel
theorem dX8_refund_57 : decode cX8_refund 57 = .ok (.aload_n 0, 1) := by decide +kernel
theorem dX8_refund_58 : decode cX8_refund 58 = .ok (.iload_n 1, 1) := by decide +kernel
theorem dX8_refund_59 : decode cX8_refund 59 = .ok (.invokevirtual 416, 3) := by decide +kernel
theorem dX8_refund_62 : decode cX8_refund 62 = .ok (.ireturn, 1) := by decide +kernel
theorem dX8_leftOf_0 : decode cX8_leftOf 0 = .ok (.aload_n 0, 1) := by decide +kernel
theorem dX8_leftOf_1 : decode cX8_leftOf 1 = .ok (.iload_n 1, 1) := by decide +kernel
theorem dX8_leftOf_2 : decode cX8_leftOf 2 = .ok (.invokevirtual 396, 3) := by decide +kernel
theorem dX8_leftOf_5 : decode cX8_leftOf 5 = .ok (.iconst 0, 1) := by decide +kernel
theorem dX8_leftOf_6 : decode cX8_leftOf 6 = .ok (.istore_n 2, 1) := by decide +kernel
theorem dX8_leftOf_7 : decode cX8_leftOf 7 = .ok (.iconst 0, 1) := by decide +kernel
theorem dX8_leftOf_8 : decode cX8_leftOf 8 = .ok (.istore_n 3, 1) := by decide +kernel
theorem dX8_leftOf_9 : decode cX8_leftOf 9 = .ok (.iload_n 3, 1) := by decide +kernel
theorem dX8_leftOf_10 : decode cX8_leftOf 10 = .ok (.aload_n 0, 1) := by decide +kernel
theorem dX8_leftOf_11 : decode cX8_leftOf 11 = .ok (.iload_n 1, 1) := by decide +kernel
theorem dX8_leftOf_12 : decode cX8_leftOf 12 = .ok (.invokevirtual 301, 3) := by decide +kernel
theorem dX8_leftOf_15 : decode cX8_leftOf 15 = .ok (.if_icmp .ge 31, 3) := by decide +kernel
theorem dX8_leftOf_18 : decode cX8_leftOf 18 = .ok (.iload_n 2, 1) := by decide +kernel
theorem dX8_leftOf_19 : decode cX8_leftOf 19 = .ok (.aload_n 0, 1) := by decide +kernel
theorem dX8_leftOf_20 : decode cX8_leftOf 20 = .ok (.iload_n 1, 1) := by decide +kernel
theorem dX8_leftOf_21 : decode cX8_leftOf 21 = .ok (.iload_n 3, 1) := by decide +kernel
theorem dX8_leftOf_22 : decode cX8_leftOf 22 = .ok (.invokevirtual 345, 3) := by decide +kernel
theorem dX8_leftOf_25 : decode cX8_leftOf 25 = .ok (.ifCond .eq 7, 3) := by decide +kernel
theorem dX8_leftOf_28 : decode cX8_leftOf 28 = .ok (.iconst 0, 1) := by decide +kernel
theorem dX8_leftOf_29 : decode cX8_leftOf 29 = .ok (.goto 9, 3) := by decide +kernel
theorem dX8_leftOf_32 : decode cX8_leftOf 32 = .ok (.aload_n 0, 1) := by decide +kernel
theorem dX8_leftOf_33 : decode cX8_leftOf 33 = .ok (.getfield 88, 3) := by decide +kernel
theorem dX8_leftOf_36 : decode cX8_leftOf 36 = .ok (.iload_n 3, 1) := by decide +kernel
theorem dX8_leftOf_37 : decode cX8_leftOf 37 = .ok (.iaload, 1) := by decide +kernel
theorem dX8_leftOf_38 : decode cX8_leftOf 38 = .ok (.iadd, 1) := by decide +kernel
theorem dX8_leftOf_39 : decode cX8_leftOf 39 = .ok (.istore_n 2, 1) := by decide +kernel
theorem dX8_leftOf_40 : decode cX8_leftOf 40 = .ok (.iinc 3 1, 3) := by decide +kernel
theorem dX8_leftOf_43 : decode cX8_leftOf 43 = .ok (.goto (-34), 3) := by decide +kernel
theorem dX8_leftOf_46 : decode cX8_leftOf 46 = .ok (.iload_n 2, 1) := by decide +kernel
theorem dX8_leftOf_47 : decode cX8_leftOf 47 = .ok (.ireturn, 1) := by decide +kernel
theorem dX8_netOf_0 : decode cX8_netOf 0 = .ok (.iconst 0, 1) := by decide +kernel
theorem dX8_netOf_1 : decode cX8_netOf 1 = .ok (.istore_n 2, 1) := by decide +kernel
theorem dX8_netOf_2 : decode cX8_netOf 2 = .ok (.iconst 0, 1) := by decide +kernel
theorem dX8_netOf_3 : decode cX8_netOf 3 = .ok (.istore_n 3, 1) := by decide +kernel
theorem dX8_netOf_4 : decode cX8_netOf 4 = .ok (.iload_n 3, 1) := by decide +kernel
theorem dX8_netOf_5 : decode cX8_netOf 5 = .ok (.aload_n 0, 1) := by decide +kernel
theorem dX8_netOf_6 : decode cX8_netOf 6 = .ok (.getfield 189, 3) := by decide +kernel
theorem dX8_netOf_9 : decode cX8_netOf 9 = .ok (.if_icmp .ge 43, 3) := by decide +kernel
theorem dX8_netOf_12 : decode cX8_netOf 12 = .ok (.iload_n 2, 1) := by decide +kernel
theorem dX8_netOf_13 : decode cX8_netOf 13 = .ok (.aload_n 0, 1) := by decide +kernel
theorem dX8_netOf_14 : decode cX8_netOf 14 = .ok (.getfield 37, 3) := by decide +kernel
theorem dX8_netOf_17 : decode cX8_netOf 17 = .ok (.sipush 192, 3) := by decide +kernel
theorem dX8_netOf_20 : decode cX8_netOf 20 = .ok (.bipush 6, 2) := by decide +kernel
theorem dX8_netOf_22 : decode cX8_netOf 22 = .ok (.iload_n 1, 1) := by decide +kernel
theorem dX8_netOf_23 : decode cX8_netOf 23 = .ok (.imul, 1) := by decide +kernel
theorem dX8_netOf_24 : decode cX8_netOf 24 = .ok (.iadd, 1) := by decide +kernel
theorem dX8_netOf_25 : decode cX8_netOf 25 = .ok (.iload_n 3, 1) := by decide +kernel
theorem dX8_netOf_26 : decode cX8_netOf 26 = .ok (.iadd, 1) := by decide +kernel
theorem dX8_netOf_27 : decode cX8_netOf 27 = .ok (.iaload, 1) := by decide +kernel
theorem dX8_netOf_28 : decode cX8_netOf 28 = .ok (.aload_n 0, 1) := by decide +kernel
theorem dX8_netOf_29 : decode cX8_netOf 29 = .ok (.getfield 37, 3) := by decide +kernel
theorem dX8_netOf_32 : decode cX8_netOf 32 = .ok (.sipush 192, 3) := by decide +kernel
theorem dX8_netOf_35 : decode cX8_netOf 35 = .ok (.bipush 6, 2) := by decide +kernel
theorem dX8_netOf_37 : decode cX8_netOf 37 = .ok (.iload_n 3, 1) := by decide +kernel
theorem dX8_netOf_38 : decode cX8_netOf 38 = .ok (.imul, 1) := by decide +kernel
theorem dX8_netOf_39 : decode cX8_netOf 39 = .ok (.iadd, 1) := by decide +kernel
theorem dX8_netOf_40 : decode cX8_netOf 40 = .ok (.iload_n 1, 1) := by decide +kernel
theorem dX8_netOf_41 : decode cX8_netOf 41 = .ok (.iadd, 1) := by decide +kernel
theorem dX8_netOf_42 : decode cX8_netOf 42 = .ok (.iaload, 1) := by decide +kernel
theorem dX8_netOf_43 : decode cX8_netOf 43 = .ok (.isub, 1) := by decide +kernel
theorem dX8_netOf_44 : decode cX8_netOf 44 = .ok (.iadd, 1) := by decide +kernel
theorem dX8_netOf_45 : decode cX8_netOf 45 = .ok (.istore_n 2, 1) := by decide +kernel
theorem dX8_netOf_46 : decode cX8_netOf 46 = .ok (.iinc 3 1, 3) := by decide +kernel
theorem dX8_netOf_49 : decode cX8_netOf 49 = .ok (.goto (-45), 3) := by decide +kernel
theorem dX8_netOf_52 : decode cX8_netOf 52 = .ok (.iload_n 2, 1) := by decide +kernel
theorem dX8_netOf_53 : decode cX8_netOf 53 = .ok (.ireturn, 1) := by decide +kernel
theorem dX8_laysPayments_0 : decode cX8_laysPayments 0 = .ok (.aload_n 0, 1) := by decide +kernel
theorem dX8_laysPayments_1 : decode cX8_laysPayments 1 = .ok (.iconst 0, 1) := by decide +kernel
theorem dX8_laysPayments_2 : decode cX8_laysPayments 2 = .ok (.putfield 419, 3) := by decide +kernel
theorem dX8_laysPayments_5 : decode cX8_laysPayments 5 = .ok (.iconst 0, 1) := by decide +kernel
theorem dX8_laysPayments_6 : decode cX8_laysPayments 6 = .ok (.istore_n 1, 1) := by decide +kernel
theorem dX8_laysPayments_7 : decode cX8_laysPayments 7 = .ok (.iload_n 1, 1) := by decide +kernel
theorem dX8_laysPayments_8 : decode cX8_laysPayments 8 = .ok (.aload_n 0, 1) := by decide +kernel
theorem dX8_laysPayments_9 : decode cX8_laysPayments 9 = .ok (.getfield 189, 3) := by decide +kernel
theorem dX8_laysPayments_12 : decode cX8_laysPayments 12 = .ok (.if_icmp .ge 20, 3) := by decide +kernel
theorem dX8_laysPayments_15 : decode cX8_laysPayments 15 = .ok (.aload_n 0, 1) := by decide +kernel
theorem dX8_laysPayments_16 : decode cX8_laysPayments 16 = .ok (.getfield 103, 3) := by decide +kernel
theorem dX8_laysPayments_19 : decode cX8_laysPayments 19 = .ok (.iload_n 1, 1) := by decide +kernel
theorem dX8_laysPayments_20 : decode cX8_laysPayments 20 = .ok (.aload_n 0, 1) := by decide +kernel
theorem dX8_laysPayments_21 : decode cX8_laysPayments 21 = .ok (.iload_n 1, 1) := by decide +kernel
theorem dX8_laysPayments_22 : decode cX8_laysPayments 22 = .ok (.invokevirtual 422, 3) := by decide +kernel
theorem dX8_laysPayments_25 : decode cX8_laysPayments 25 = .ok (.iastore, 1) := by decide +kernel
theorem dX8_laysPayments_26 : decode cX8_laysPayments 26 = .ok (.iinc 1 1, 3) := by decide +kernel
theorem dX8_laysPayments_29 : decode cX8_laysPayments 29 = .ok (.goto (-22), 3) := by decide +kernel
theorem dX8_laysPayments_32 : decode cX8_laysPayments 32 = .ok (.iconst 0, 1) := by decide +kernel
theorem dX8_laysPayments_33 : decode cX8_laysPayments 33 = .ok (.istore_n 1, 1) := by decide +kernel
theorem dX8_laysPayments_34 : decode cX8_laysPayments 34 = .ok (.iconst 0, 1) := by decide +kernel
theorem dX8_laysPayments_35 : decode cX8_laysPayments 35 = .ok (.istore_n 2, 1) := by decide +kernel
theorem dX8_laysPayments_36 : decode cX8_laysPayments 36 = .ok (.iconst 1, 1) := by decide +kernel
theorem dX8_laysPayments_37 : decode cX8_laysPayments 37 = .ok (.istore_n 3, 1) := by decide +kernel
theorem dX8_laysPayments_38 : decode cX8_laysPayments 38 = .ok (.iload_n 3, 1) := by decide +kernel
theorem dX8_laysPayments_39 : decode cX8_laysPayments 39 = .ok (.aload_n 0, 1) := by decide +kernel
theorem dX8_laysPayments_40 : decode cX8_laysPayments 40 = .ok (.getfield 189, 3) := by decide +kernel
theorem dX8_laysPayments_43 : decode cX8_laysPayments 43 = .ok (.if_icmp .ge 43, 3) := by decide +kernel
theorem dX8_laysPayments_46 : decode cX8_laysPayments 46 = .ok (.aload_n 0, 1) := by decide +kernel
theorem dX8_laysPayments_47 : decode cX8_laysPayments 47 = .ok (.getfield 103, 3) := by decide +kernel
theorem dX8_laysPayments_50 : decode cX8_laysPayments 50 = .ok (.iload_n 3, 1) := by decide +kernel
theorem dX8_laysPayments_51 : decode cX8_laysPayments 51 = .ok (.iaload, 1) := by decide +kernel
theorem dX8_laysPayments_52 : decode cX8_laysPayments 52 = .ok (.aload_n 0, 1) := by decide +kernel
theorem dX8_laysPayments_53 : decode cX8_laysPayments 53 = .ok (.getfield 103, 3) := by decide +kernel
theorem dX8_laysPayments_56 : decode cX8_laysPayments 56 = .ok (.iload_n 1, 1) := by decide +kernel
theorem dX8_laysPayments_57 : decode cX8_laysPayments 57 = .ok (.iaload, 1) := by decide +kernel
theorem dX8_laysPayments_58 : decode cX8_laysPayments 58 = .ok (.if_icmp .ge 5, 3) := by decide +kernel
theorem dX8_laysPayments_61 : decode cX8_laysPayments 61 = .ok (.iload_n 3, 1) := by decide +kernel
theorem dX8_laysPayments_62 : decode cX8_laysPayments 62 = .ok (.istore_n 1, 1) := by decide +kernel
theorem dX8_laysPayments_63 : decode cX8_laysPayments 63 = .ok (.aload_n 0, 1) := by decide +kernel
theorem dX8_laysPayments_64 : decode cX8_laysPayments 64 = .ok (.getfield 103, 3) := by decide +kernel
theorem dX8_laysPayments_67 : decode cX8_laysPayments 67 = .ok (.iload_n 3, 1) := by decide +kernel
theorem dX8_laysPayments_68 : decode cX8_laysPayments 68 = .ok (.iaload, 1) := by decide +kernel
theorem dX8_laysPayments_69 : decode cX8_laysPayments 69 = .ok (.aload_n 0, 1) := by decide +kernel
theorem dX8_laysPayments_70 : decode cX8_laysPayments 70 = .ok (.getfield 103, 3) := by decide +kernel
theorem dX8_laysPayments_73 : decode cX8_laysPayments 73 = .ok (.iload_n 2, 1) := by decide +kernel
theorem dX8_laysPayments_74 : decode cX8_laysPayments 74 = .ok (.iaload, 1) := by decide +kernel
theorem dX8_laysPayments_75 : decode cX8_laysPayments 75 = .ok (.if_icmp .le 5, 3) := by decide +kernel
theorem dX8_laysPayments_78 : decode cX8_laysPayments 78 = .ok (.iload_n 3, 1) := by decide +kernel
theorem dX8_laysPayments_79 : decode cX8_laysPayments 79 = .ok (.istore_n 2, 1) := by decide +kernel
theorem dX8_laysPayments_80 : decode cX8_laysPayments 80 = .ok (.iinc 3 1, 3) := by decide +kernel
theorem dX8_laysPayments_83 : decode cX8_laysPayments 83 = .ok (.goto (-45), 3) := by decide +kernel
theorem dX8_laysPayments_86 : decode cX8_laysPayments 86 = .ok (.aload_n 0, 1) := by decide +kernel
theorem dX8_laysPayments_87 : decode cX8_laysPayments 87 = .ok (.getfield 189, 3) := by decide +kernel
theorem dX8_laysPayments_90 : decode cX8_laysPayments 90 = .ok (.ifCond .eq 12, 3) := by decide +kernel
theorem dX8_laysPayments_93 : decode cX8_laysPayments 93 = .ok (.aload_n 0, 1) := by decide +kernel
theorem dX8_laysPayments_94 : decode cX8_laysPayments 94 = .ok (.getfield 103, 3) := by decide +kernel
theorem dX8_laysPayments_97 : decode cX8_laysPayments 97 = .ok (.iload_n 2, 1) := by decide +kernel
theorem dX8_laysPayments_98 : decode cX8_laysPayments 98 = .ok (.iaload, 1) := by decide +kernel
theorem dX8_laysPayments_99 : decode cX8_laysPayments 99 = .ok (.ifCond .gt 4, 3) := by decide +kernel
theorem dX8_laysPayments_102 : decode cX8_laysPayments 102 = .ok (.return_, 1) := by decide +kernel
theorem dX8_laysPayments_103 : decode cX8_laysPayments 103 = .ok (.aload_n 0, 1) := by decide +kernel
theorem dX8_laysPayments_104 : decode cX8_laysPayments 104 = .ok (.getfield 103, 3) := by decide +kernel
theorem dX8_laysPayments_107 : decode cX8_laysPayments 107 = .ok (.iload_n 2, 1) := by decide +kernel
theorem dX8_laysPayments_108 : decode cX8_laysPayments 108 = .ok (.iaload, 1) := by decide +kernel
theorem dX8_laysPayments_109 : decode cX8_laysPayments 109 = .ok (.aload_n 0, 1) := by decide +kernel
theorem dX8_laysPayments_110 : decode cX8_laysPayments 110 = .ok (.getfield 103, 3) := by decide +kernel
theorem dX8_laysPayments_113 : decode cX8_laysPayments 113 = .ok (.iload_n 1, 1) := by decide +kernel
theorem dX8_laysPayments_114 : decode cX8_laysPayments 114 = .ok (.iaload, 1) := by decide +kernel
theorem dX8_laysPayments_115 : decode cX8_laysPayments 115 = .ok (.ineg, 1) := by decide +kernel
theorem dX8_laysPayments_116 : decode cX8_laysPayments 116 = .ok (.invokestatic 293, 3) := by decide +kernel
theorem dX8_laysPayments_119 : decode cX8_laysPayments 119 = .ok (.istore_n 3, 1) := by decide +kernel
theorem dX8_laysPayments_120 : decode cX8_laysPayments 120 = .ok (.aload_n 0, 1) := by decide +kernel
theorem dX8_laysPayments_121 : decode cX8_laysPayments 121 = .ok (.getfield 94, 3) := by decide +kernel
theorem dX8_laysPayments_124 : decode cX8_laysPayments 124 = .ok (.aload_n 0, 1) := by decide +kernel
theorem dX8_laysPayments_125 : decode cX8_laysPayments 125 = .ok (.getfield 419, 3) := by decide +kernel
theorem dX8_laysPayments_128 : decode cX8_laysPayments 128 = .ok (.iload_n 1, 1) := by decide +kernel
theorem dX8_laysPayments_129 : decode cX8_laysPayments 129 = .ok (.iastore, 1) := by decide +kernel
theorem dX8_laysPayments_130 : decode cX8_laysPayments 130 = .ok (.aload_n 0, 1) := by decide +kernel
theorem dX8_laysPayments_131 : decode cX8_laysPayments 131 = .ok (.getfield 97, 3) := by decide +kernel
theorem dX8_laysPayments_134 : decode cX8_laysPayments 134 = .ok (.aload_n 0, 1) := by decide +kernel
theorem dX8_laysPayments_135 : decode cX8_laysPayments 135 = .ok (.getfield 419, 3) := by decide +kernel
theorem dX8_laysPayments_138 : decode cX8_laysPayments 138 = .ok (.iload_n 2, 1) := by decide +kernel
theorem dX8_laysPayments_139 : decode cX8_laysPayments 139 = .ok (.iastore, 1) := by decide +kernel
theorem dX8_laysPayments_140 : decode cX8_laysPayments 140 = .ok (.aload_n 0, 1) := by decide +kernel
theorem dX8_laysPayments_141 : decode cX8_laysPayments 141 = .ok (.getfield 100, 3) := by decide +kernel
theorem dX8_laysPayments_144 : decode cX8_laysPayments 144 = .ok (.aload_n 0, 1) := by decide +kernel
theorem dX8_laysPayments_145 : decode cX8_laysPayments 145 = .ok (.getfield 419, 3) := by decide +kernel
theorem dX8_laysPayments_148 : decode cX8_laysPayments 148 = .ok (.iload_n 3, 1) := by decide +kernel
theorem dX8_laysPayments_149 : decode cX8_laysPayments 149 = .ok (.iastore, 1) := by decide +kernel
theorem dX8_laysPayments_150 : decode cX8_laysPayments 150 = .ok (.aload_n 0, 1) := by decide +kernel
theorem dX8_laysPayments_151 : decode cX8_laysPayments 151 = .ok (.dup, 1) := by decide +kernel
theorem dX8_laysPayments_152 : decode cX8_laysPayments 152 = .ok (.getfield 419, 3) := by decide +kernel
theorem dX8_laysPayments_155 : decode cX8_laysPayments 155 = .ok (.iconst 1, 1) := by decide +kernel
theorem dX8_laysPayments_156 : decode cX8_laysPayments 156 = .ok (.iadd, 1) := by decide +kernel
theorem dX8_laysPayments_157 : decode cX8_laysPayments 157 = .ok (.putfield 419, 3) := by decide +kernel
theorem dX8_laysPayments_160 : decode cX8_laysPayments 160 = .ok (.aload_n 0, 1) := by decide +kernel
theorem dX8_laysPayments_161 : decode cX8_laysPayments 161 = .ok (.getfield 103, 3) := by decide +kernel
theorem dX8_laysPayments_164 : decode cX8_laysPayments 164 = .ok (.iload_n 1, 1) := by decide +kernel
theorem dX8_laysPayments_165 : decode cX8_laysPayments 165 = .ok (.dup2, 1) := by decide +kernel
theorem dX8_laysPayments_166 : decode cX8_laysPayments 166 = .ok (.iaload, 1) := by decide +kernel
theorem dX8_laysPayments_167 : decode cX8_laysPayments 167 = .ok (.iload_n 3, 1) := by decide +kernel
theorem dX8_laysPayments_168 : decode cX8_laysPayments 168 = .ok (.iadd, 1) := by decide +kernel
theorem dX8_laysPayments_169 : decode cX8_laysPayments 169 = .ok (.iastore, 1) := by decide +kernel
theorem dX8_laysPayments_170 : decode cX8_laysPayments 170 = .ok (.aload_n 0, 1) := by decide +kernel
theorem dX8_laysPayments_171 : decode cX8_laysPayments 171 = .ok (.getfield 103, 3) := by decide +kernel
theorem dX8_laysPayments_174 : decode cX8_laysPayments 174 = .ok (.iload_n 2, 1) := by decide +kernel
theorem dX8_laysPayments_175 : decode cX8_laysPayments 175 = .ok (.dup2, 1) := by decide +kernel
theorem dX8_laysPayments_176 : decode cX8_laysPayments 176 = .ok (.iaload, 1) := by decide +kernel
theorem dX8_laysPayments_177 : decode cX8_laysPayments 177 = .ok (.iload_n 3, 1) := by decide +kernel
theorem dX8_laysPayments_178 : decode cX8_laysPayments 178 = .ok (.isub, 1) := by decide +kernel
theorem dX8_laysPayments_179 : decode cX8_laysPayments 179 = .ok (.iastore, 1) := by decide +kernel
theorem dX8_laysPayments_180 : decode cX8_laysPayments 180 = .ok (.goto (-148), 3) := by decide +kernel
theorem dX8_billed_0 : decode cX8_billed 0 = .ok (.iconst 0, 1) := by decide +kernel
theorem dX8_billed_1 : decode cX8_billed 1 = .ok (.istore_n 1, 1) := by decide +kernel
theorem dX8_billed_2 : decode cX8_billed 2 = .ok (.sipush 192, 3) := by decide +kernel
theorem dX8_billed_5 : decode cX8_billed 5 = .ok (.istore_n 2, 1) := by decide +kernel
theorem dX8_billed_6 : decode cX8_billed 6 = .ok (.iload_n 2, 1) := by decide +kernel
theorem dX8_billed_7 : decode cX8_billed 7 = .ok (.sipush 228, 3) := by decide +kernel
theorem dX8_billed_10 : decode cX8_billed 10 = .ok (.if_icmp .ge 18, 3) := by decide +kernel
theorem dX8_billed_13 : decode cX8_billed 13 = .ok (.iload_n 1, 1) := by decide +kernel
theorem dX8_billed_14 : decode cX8_billed 14 = .ok (.aload_n 0, 1) := by decide +kernel
theorem dX8_billed_15 : decode cX8_billed 15 = .ok (.getfield 37, 3) := by decide +kernel
theorem dX8_billed_18 : decode cX8_billed 18 = .ok (.iload_n 2, 1) := by decide +kernel
theorem dX8_billed_19 : decode cX8_billed 19 = .ok (.iaload, 1) := by decide +kernel
theorem dX8_billed_20 : decode cX8_billed 20 = .ok (.iadd, 1) := by decide +kernel
theorem dX8_billed_21 : decode cX8_billed 21 = .ok (.istore_n 1, 1) := by decide +kernel
theorem dX8_billed_22 : decode cX8_billed 22 = .ok (.iinc 2 1, 3) := by decide +kernel
theorem dX8_billed_25 : decode cX8_billed 25 = .ok (.goto (-19), 3) := by decide +kernel
theorem dX8_billed_28 : decode cX8_billed 28 = .ok (.iload_n 1, 1) := by decide +kernel
theorem dX8_billed_29 : decode cX8_billed 29 = .ok (.ireturn, 1) := by decide +kernel
theorem dX8_clear_0 : decode cX8_clear 0 = .ok (.aload_n 0, 1) := by decide +kernel
theorem dX8_clear_1 : decode cX8_clear 1 = .ok (.iconst 0, 1) := by decide +kernel
theorem dX8_clear_2 : decode cX8_clear 2 = .ok (.putfield 112, 3) := by decide +kernel
theorem dX8_clear_5 : decode cX8_clear 5 = .ok (.aload_n 0, 1) := by decide +kernel
theorem dX8_clear_6 : decode cX8_clear 6 = .ok (.invokevirtual 425, 3) := by decide +kernel
theorem dX8_clear_9 : decode cX8_clear 9 = .ok (.ifCond .ne 6, 3) := by decide +kernel
theorem dX8_clear_12 : decode cX8_clear 12 = .ok (.bipush (-2), 2) := by decide +kernel
theorem dX8_clear_14 : decode cX8_clear 14 = .ok (.ireturn, 1) := by decide +kernel
theorem dX8_clear_15 : decode cX8_clear 15 = .ok (.aload_n 0, 1) := by decide +kernel
theorem dX8_clear_16 : decode cX8_clear 16 = .ok (.invokevirtual 410, 3) := by decide +kernel
theorem dX8_clear_19 : decode cX8_clear 19 = .ok (.aload_n 0, 1) := by decide +kernel
theorem dX8_clear_20 : decode cX8_clear 20 = .ok (.invokevirtual 428, 3) := by decide +kernel
theorem dX8_clear_23 : decode cX8_clear 23 = .ok (.iconst 0, 1) := by decide +kernel
theorem dX8_clear_24 : decode cX8_clear 24 = .ok (.istore_n 1, 1) := by decide +kernel
theorem dX8_clear_25 : decode cX8_clear 25 = .ok (.iconst 0, 1) := by decide +kernel
theorem dX8_clear_26 : decode cX8_clear 26 = .ok (.istore_n 2, 1) := by decide +kernel
theorem dX8_clear_27 : decode cX8_clear 27 = .ok (.iload_n 2, 1) := by decide +kernel
theorem dX8_clear_28 : decode cX8_clear 28 = .ok (.aload_n 0, 1) := by decide +kernel
theorem dX8_clear_29 : decode cX8_clear 29 = .ok (.getfield 419, 3) := by decide +kernel
theorem dX8_clear_32 : decode cX8_clear 32 = .ok (.if_icmp .ge 18, 3) := by decide +kernel
theorem dX8_clear_35 : decode cX8_clear 35 = .ok (.iload_n 1, 1) := by decide +kernel
theorem dX8_clear_36 : decode cX8_clear 36 = .ok (.aload_n 0, 1) := by decide +kernel
theorem dX8_clear_37 : decode cX8_clear 37 = .ok (.getfield 100, 3) := by decide +kernel
theorem dX8_clear_40 : decode cX8_clear 40 = .ok (.iload_n 2, 1) := by decide +kernel
theorem dX8_clear_41 : decode cX8_clear 41 = .ok (.iaload, 1) := by decide +kernel
theorem dX8_clear_42 : decode cX8_clear 42 = .ok (.iadd, 1) := by decide +kernel
theorem dX8_clear_43 : decode cX8_clear 43 = .ok (.istore_n 1, 1) := by decide +kernel
theorem dX8_clear_44 : decode cX8_clear 44 = .ok (.iinc 2 1, 3) := by decide +kernel
theorem dX8_clear_47 : decode cX8_clear 47 = .ok (.goto (-20), 3) := by decide +kernel
theorem dX8_clear_50 : decode cX8_clear 50 = .ok (.iconst 0, 1) := by decide +kernel
theorem dX8_clear_51 : decode cX8_clear 51 = .ok (.istore_n 2, 1) := by decide +kernel
theorem dX8_clear_52 : decode cX8_clear 52 = .ok (.iload_n 2, 1) := by decide +kernel
theorem dX8_clear_53 : decode cX8_clear 53 = .ok (.aload_n 0, 1) := by decide +kernel
theorem dX8_clear_54 : decode cX8_clear 54 = .ok (.getfield 189, 3) := by decide +kernel
theorem dX8_clear_57 : decode cX8_clear 57 = .ok (.if_icmp .ge 27, 3) := by decide +kernel
theorem dX8_clear_60 : decode cX8_clear 60 = .ok (.aload_n 0, 1) := by decide +kernel
theorem dX8_clear_61 : decode cX8_clear 61 = .ok (.getfield 37, 3) := by decide +kernel
theorem dX8_clear_64 : decode cX8_clear 64 = .ok (.sipush 228, 3) := by decide +kernel
theorem dX8_clear_67 : decode cX8_clear 67 = .ok (.iload_n 2, 1) := by decide +kernel
theorem dX8_clear_68 : decode cX8_clear 68 = .ok (.iadd, 1) := by decide +kernel
theorem dX8_clear_69 : decode cX8_clear 69 = .ok (.dup2, 1) := by decide +kernel
theorem dX8_clear_70 : decode cX8_clear 70 = .ok (.iaload, 1) := by decide +kernel
theorem dX8_clear_71 : decode cX8_clear 71 = .ok (.aload_n 0, 1) := by decide +kernel
theorem dX8_clear_72 : decode cX8_clear 72 = .ok (.iload_n 2, 1) := by decide +kernel
theorem dX8_clear_73 : decode cX8_clear 73 = .ok (.invokevirtual 422, 3) := by decide +kernel
theorem dX8_clear_76 : decode cX8_clear 76 = .ok (.iadd, 1) := by decide +kernel
theorem dX8_clear_77 : decode cX8_clear 77 = .ok (.iastore, 1) := by decide +kernel
theorem dX8_clear_78 : decode cX8_clear 78 = .ok (.iinc 2 1, 3) := by decide +kernel
theorem dX8_clear_81 : decode cX8_clear 81 = .ok (.goto (-29), 3) := by decide +kernel
theorem dX8_clear_84 : decode cX8_clear 84 = .ok (.sipush 192, 3) := by decide +kernel
theorem dX8_clear_87 : decode cX8_clear 87 = .ok (.istore_n 2, 1) := by decide +kernel
theorem dX8_clear_88 : decode cX8_clear 88 = .ok (.iload_n 2, 1) := by decide +kernel
theorem dX8_clear_89 : decode cX8_clear 89 = .ok (.sipush 228, 3) := by decide +kernel
theorem dX8_clear_92 : decode cX8_clear 92 = .ok (.if_icmp .ge 16, 3) := by decide +kernel
theorem dX8_clear_95 : decode cX8_clear 95 = .ok (.aload_n 0, 1) := by decide +kernel
theorem dX8_clear_96 : decode cX8_clear 96 = .ok (.getfield 37, 3) := by decide +kernel
theorem dX8_clear_99 : decode cX8_clear 99 = .ok (.iload_n 2, 1) := by decide +kernel
theorem dX8_clear_100 : decode cX8_clear 100 = .ok (.iconst 0, 1) := by decide +kernel
theorem dX8_clear_101 : decode cX8_clear 101 = .ok (.iastore, 1) := by decide +kernel
theorem dX8_clear_102 : decode cX8_clear 102 = .ok (.iinc 2 1, 3) := by decide +kernel
theorem dX8_clear_105 : decode cX8_clear 105 = .ok (.goto (-17), 3) := by decide +kernel
theorem dX8_clear_108 : decode cX8_clear 108 = .ok (.iload_n 1, 1) := by decide +kernel
theorem dX8_clear_109 : decode cX8_clear 109 = .ok (.ireturn, 1) := by decide +kernel
theorem dX8_bill_0 : decode cX8_bill 0 = .ok (.aload_n 0, 1) := by decide +kernel
theorem dX8_bill_1 : decode cX8_bill 1 = .ok (.iconst 0, 1) := by decide +kernel
theorem dX8_bill_2 : decode cX8_bill 2 = .ok (.putfield 112, 3) := by decide +kernel
theorem dX8_bill_5 : decode cX8_bill 5 = .ok (.aload_n 0, 1) := by decide +kernel
theorem dX8_bill_6 : decode cX8_bill 6 = .ok (.iload_n 1, 1) := by decide +kernel
theorem dX8_bill_7 : decode cX8_bill 7 = .ok (.invokevirtual 315, 3) := by decide +kernel
theorem dX8_bill_10 : decode cX8_bill 10 = .ok (.ifCond .eq 34, 3) := by decide +kernel
theorem dX8_bill_13 : decode cX8_bill 13 = .ok (.aload_n 0, 1) := by decide +kernel
theorem dX8_bill_14 : decode cX8_bill 14 = .ok (.iload_n 2, 1) := by decide +kernel
theorem dX8_bill_15 : decode cX8_bill 15 = .ok (.invokevirtual 315, 3) := by decide +kernel
theorem dX8_bill_18 : decode cX8_bill 18 = .ok (.ifCond .eq 26, 3) := by decide +kernel
theorem dX8_bill_21 : decode cX8_bill 21 = .ok (.iload_n 1, 1) := by decide +kernel
theorem dX8_bill_22 : decode cX8_bill 22 = .ok (.iload_n 2, 1) := by decide +kernel
theorem dX8_bill_23 : decode cX8_bill 23 = .ok (.if_icmp .eq 21, 3) := by decide +kernel
theorem dX8_bill_26 : decode cX8_bill 26 = .ok (.aload_n 0, 1) := by decide +kernel
theorem dX8_bill_27 : decode cX8_bill 27 = .ok (.getfield 37, 3) := by decide +kernel
theorem dX8_bill_30 : decode cX8_bill 30 = .ok (.sipush 192, 3) := by decide +kernel
theorem dX8_bill_33 : decode cX8_bill 33 = .ok (.bipush 6, 2) := by decide +kernel
theorem dX8_bill_35 : decode cX8_bill 35 = .ok (.iload_n 1, 1) := by decide +kernel
theorem dX8_bill_36 : decode cX8_bill 36 = .ok (.imul, 1) := by decide +kernel
theorem dX8_bill_37 : decode cX8_bill 37 = .ok (.iadd, 1) := by decide +kernel
theorem dX8_bill_38 : decode cX8_bill 38 = .ok (.iload_n 2, 1) := by decide +kernel
theorem dX8_bill_39 : decode cX8_bill 39 = .ok (.iadd, 1) := by decide +kernel
theorem dX8_bill_40 : decode cX8_bill 40 = .ok (.iaload, 1) := by decide +kernel
theorem dX8_bill_41 : decode cX8_bill 41 = .ok (.goto 4, 3) := by decide +kernel
theorem dX8_bill_44 : decode cX8_bill 44 = .ok (.iconst (-1), 1) := by decide +kernel
theorem dX8_bill_45 : decode cX8_bill 45 = .ok (.ireturn, 1) := by decide +kernel
theorem dX8_net_0 : decode cX8_net 0 = .ok (.aload_n 0, 1) := by decide +kernel
theorem dX8_net_1 : decode cX8_net 1 = .ok (.iconst 0, 1) := by decide +kernel
theorem dX8_net_2 : decode cX8_net 2 = .ok (.putfield 112, 3) := by decide +kernel
theorem dX8_net_5 : decode cX8_net 5 = .ok (.aload_n 0, 1) := by decide +kernel
theorem dX8_net_6 : decode cX8_net 6 = .ok (.iload_n 1, 1) := by decide +kernel
theorem dX8_net_7 : decode cX8_net 7 = .ok (.invokevirtual 315, 3) := by decide +kernel
theorem dX8_net_10 : decode cX8_net 10 = .ok (.ifCond .eq 11, 3) := by decide +kernel
theorem dX8_net_13 : decode cX8_net 13 = .ok (.aload_n 0, 1) := by decide +kernel
theorem dX8_net_14 : decode cX8_net 14 = .ok (.iload_n 1, 1) := by decide +kernel
theorem dX8_net_15 : decode cX8_net 15 = .ok (.invokevirtual 422, 3) := by decide +kernel
theorem dX8_net_18 : decode cX8_net 18 = .ok (.goto 6, 3) := by decide +kernel
theorem dX8_net_21 : decode cX8_net 21 = .ok (.ldc_w 431, 3) := by decide +kernel
theorem dX8_net_24 : decode cX8_net 24 = .ok (.ireturn, 1) := by decide +kernel
theorem dX8_cleared_0 : decode cX8_cleared 0 = .ok (.aload_n 0, 1) := by decide +kernel
theorem dX8_cleared_1 : decode cX8_cleared 1 = .ok (.iconst 0, 1) := by decide +kernel
theorem dX8_cleared_2 : decode cX8_cleared 2 = .ok (.putfield 112, 3) := by decide +kernel
theorem dX8_cleared_5 : decode cX8_cleared 5 = .ok (.aload_n 0, 1) := by decide +kernel
theorem dX8_cleared_6 : decode cX8_cleared 6 = .ok (.iload_n 1, 1) := by decide +kernel
theorem dX8_cleared_7 : decode cX8_cleared 7 = .ok (.invokevirtual 315, 3) := by decide +kernel
theorem dX8_cleared_10 : decode cX8_cleared 10 = .ok (.ifCond .eq 16, 3) := by decide +kernel
theorem dX8_cleared_13 : decode cX8_cleared 13 = .ok (.aload_n 0, 1) := by decide +kernel
theorem dX8_cleared_14 : decode cX8_cleared 14 = .ok (.getfield 37, 3) := by decide +kernel
theorem dX8_cleared_17 : decode cX8_cleared 17 = .ok (.sipush 228, 3) := by decide +kernel
theorem dX8_cleared_20 : decode cX8_cleared 20 = .ok (.iload_n 1, 1) := by decide +kernel
theorem dX8_cleared_21 : decode cX8_cleared 21 = .ok (.iadd, 1) := by decide +kernel
theorem dX8_cleared_22 : decode cX8_cleared 22 = .ok (.iaload, 1) := by decide +kernel
theorem dX8_cleared_23 : decode cX8_cleared 23 = .ok (.goto 6, 3) := by decide +kernel
theorem dX8_cleared_26 : decode cX8_cleared 26 = .ok (.ldc_w 431, 3) := by decide +kernel
theorem dX8_cleared_29 : decode cX8_cleared 29 = .ok (.ireturn, 1) := by decide +kernel
theorem dX8_payments_0 : decode cX8_payments 0 = .ok (.aload_n 0, 1) := by decide +kernel
theorem dX8_payments_1 : decode cX8_payments 1 = .ok (.iconst 0, 1) := by decide +kernel
theorem dX8_payments_2 : decode cX8_payments 2 = .ok (.putfield 112, 3) := by decide +kernel
theorem dX8_payments_5 : decode cX8_payments 5 = .ok (.aload_n 0, 1) := by decide +kernel
theorem dX8_payments_6 : decode cX8_payments 6 = .ok (.invokevirtual 428, 3) := by decide +kernel
theorem dX8_payments_9 : decode cX8_payments 9 = .ok (.aload_n 0, 1) := by decide +kernel
theorem dX8_payments_10 : decode cX8_payments 10 = .ok (.getfield 419, 3) := by decide +kernel
theorem dX8_payments_13 : decode cX8_payments 13 = .ok (.ireturn, 1) := by decide +kernel
theorem dX8_payment_0 : decode cX8_payment 0 = .ok (.aload_n 0, 1) := by decide +kernel
theorem dX8_payment_1 : decode cX8_payment 1 = .ok (.iconst 0, 1) := by decide +kernel
theorem dX8_payment_2 : decode cX8_payment 2 = .ok (.putfield 112, 3) := by decide +kernel
theorem dX8_payment_5 : decode cX8_payment 5 = .ok (.iload_n 1, 1) := by decide +kernel
theorem dX8_payment_6 : decode cX8_payment 6 = .ok (.ifCond .lt 12, 3) := by decide +kernel
theorem dX8_payment_9 : decode cX8_payment 9 = .ok (.iload_n 2, 1) := by decide +kernel
theorem dX8_payment_10 : decode cX8_payment 10 = .ok (.ifCond .lt 8, 3) := by decide +kernel
theorem dX8_payment_13 : decode cX8_payment 13 = .ok (.iload_n 2, 1) := by decide +kernel
theorem dX8_payment_14 : decode cX8_payment 14 = .ok (.iconst 2, 1) := by decide +kernel
theorem dX8_payment_15 : decode cX8_payment 15 = .ok (.if_icmp .le 5, 3) := by decide +kernel
theorem dX8_payment_18 : decode cX8_payment 18 = .ok (.iconst (-1), 1) := by decide +kernel
theorem dX8_payment_19 : decode cX8_payment 19 = .ok (.ireturn, 1) := by decide +kernel
theorem dX8_payment_20 : decode cX8_payment 20 = .ok (.aload_n 0, 1) := by decide +kernel
theorem dX8_payment_21 : decode cX8_payment 21 = .ok (.invokevirtual 428, 3) := by decide +kernel
theorem dX8_payment_24 : decode cX8_payment 24 = .ok (.iload_n 1, 1) := by decide +kernel
theorem dX8_payment_25 : decode cX8_payment 25 = .ok (.aload_n 0, 1) := by decide +kernel
theorem dX8_payment_26 : decode cX8_payment 26 = .ok (.getfield 419, 3) := by decide +kernel
theorem dX8_payment_29 : decode cX8_payment 29 = .ok (.if_icmp .lt 6, 3) := by decide +kernel
theorem dX8_payment_32 : decode cX8_payment 32 = .ok (.bipush (-2), 2) := by decide +kernel
theorem dX8_payment_34 : decode cX8_payment 34 = .ok (.ireturn, 1) := by decide +kernel
theorem dX8_payment_35 : decode cX8_payment 35 = .ok (.iload_n 2, 1) := by decide +kernel
theorem dX8_payment_36 : decode cX8_payment 36 = .ok (.ifCond .ne 12, 3) := by decide +kernel
theorem dX8_payment_39 : decode cX8_payment 39 = .ok (.aload_n 0, 1) := by decide +kernel
theorem dX8_payment_40 : decode cX8_payment 40 = .ok (.getfield 94, 3) := by decide +kernel
theorem dX8_payment_43 : decode cX8_payment 43 = .ok (.iload_n 1, 1) := by decide +kernel
theorem dX8_payment_44 : decode cX8_payment 44 = .ok (.iaload, 1) := by decide +kernel
theorem dX8_payment_45 : decode cX8_payment 45 = .ok (.goto 23, 3) := by decide +kernel
theorem dX8_payment_48 : decode cX8_payment 48 = .ok (.iload_n 2, 1) := by decide +kernel
theorem dX8_payment_49 : decode cX8_payment 49 = .ok (.iconst 1, 1) := by decide +kernel
theorem dX8_payment_50 : decode cX8_payment 50 = .ok (.if_icmp .ne 12, 3) := by decide +kernel
theorem dX8_payment_53 : decode cX8_payment 53 = .ok (.aload_n 0, 1) := by decide +kernel
theorem dX8_payment_54 : decode cX8_payment 54 = .ok (.getfield 97, 3) := by decide +kernel
theorem dX8_payment_57 : decode cX8_payment 57 = .ok (.iload_n 1, 1) := by decide +kernel
theorem dX8_payment_58 : decode cX8_payment 58 = .ok (.iaload, 1) := by decide +kernel
theorem dX8_payment_59 : decode cX8_payment 59 = .ok (.goto 9, 3) := by decide +kernel
theorem dX8_payment_62 : decode cX8_payment 62 = .ok (.aload_n 0, 1) := by decide +kernel
theorem dX8_payment_63 : decode cX8_payment 63 = .ok (.getfield 100, 3) := by decide +kernel
theorem dX8_payment_66 : decode cX8_payment 66 = .ok (.iload_n 1, 1) := by decide +kernel
theorem dX8_payment_67 : decode cX8_payment 67 = .ok (.iaload, 1) := by decide +kernel
theorem dX8_payment_68 : decode cX8_payment 68 = .ok (.ireturn, 1) := by decide +kernel
theorem dX8_endorsed_0 : decode cX8_endorsed 0 = .ok (.aload_n 0, 1) := by decide +kernel
theorem dX8_endorsed_1 : decode cX8_endorsed 1 = .ok (.iload_n 1, 1) := by decide +kernel
theorem dX8_endorsed_2 : decode cX8_endorsed 2 = .ok (.iload_n 2, 1) := by decide +kernel
theorem dX8_endorsed_3 : decode cX8_endorsed 3 = .ok (.invokevirtual 321, 3) := by decide +kernel
theorem dX8_endorsed_6 : decode cX8_endorsed 6 = .ok (.istore 4, 2) := by decide +kernel
theorem dX8_endorsed_8 : decode cX8_endorsed 8 = .ok (.aload_n 0, 1) := by decide +kernel
theorem dX8_endorsed_9 : decode cX8_endorsed 9 = .ok (.getfield 37, 3) := by decide +kernel
theorem dX8_endorsed_12 : decode cX8_endorsed 12 = .ok (.iconst 0, 1) := by decide +kernel
theorem dX8_endorsed_13 : decode cX8_endorsed 13 = .ok (.bipush 8, 2) := by decide +kernel
theorem dX8_endorsed_15 : decode cX8_endorsed 15 = .ok (.iload_n 1, 1) := by decide +kernel
theorem dX8_endorsed_16 : decode cX8_endorsed 16 = .ok (.imul, 1) := by decide +kernel
theorem dX8_endorsed_17 : decode cX8_endorsed 17 = .ok (.iadd, 1) := by decide +kernel
theorem dX8_endorsed_18 : decode cX8_endorsed 18 = .ok (.iload_n 2, 1) := by decide +kernel
theorem dX8_endorsed_19 : decode cX8_endorsed 19 = .ok (.iadd, 1) := by decide +kernel
theorem dX8_endorsed_20 : decode cX8_endorsed 20 = .ok (.iload_n 3, 1) := by decide +kernel
theorem dX8_endorsed_21 : decode cX8_endorsed 21 = .ok (.iastore, 1) := by decide +kernel
theorem dX8_endorsed_22 : decode cX8_endorsed 22 = .ok (.aload_n 0, 1) := by decide +kernel
theorem dX8_endorsed_23 : decode cX8_endorsed 23 = .ok (.iload_n 1, 1) := by decide +kernel
theorem dX8_endorsed_24 : decode cX8_endorsed 24 = .ok (.invokevirtual 396, 3) := by decide +kernel
theorem dX8_endorsed_27 : decode cX8_endorsed 27 = .ok (.aload_n 0, 1) := by decide +kernel
theorem dX8_endorsed_28 : decode cX8_endorsed 28 = .ok (.getfield 37, 3) := by decide +kernel
theorem dX8_endorsed_31 : decode cX8_endorsed 31 = .ok (.iconst 0, 1) := by decide +kernel
theorem dX8_endorsed_32 : decode cX8_endorsed 32 = .ok (.bipush 8, 2) := by decide +kernel
theorem dX8_endorsed_34 : decode cX8_endorsed 34 = .ok (.iload_n 1, 1) := by decide +kernel
theorem dX8_endorsed_35 : decode cX8_endorsed 35 = .ok (.imul, 1) := by decide +kernel
theorem dX8_endorsed_36 : decode cX8_endorsed 36 = .ok (.iadd, 1) := by decide +kernel
theorem dX8_endorsed_37 : decode cX8_endorsed 37 = .ok (.iload_n 2, 1) := by decide +kernel
theorem dX8_endorsed_38 : decode cX8_endorsed 38 = .ok (.iadd, 1) := by decide +kernel
theorem dX8_endorsed_39 : decode cX8_endorsed 39 = .ok (.iload 4, 2) := by decide +kernel
theorem dX8_endorsed_41 : decode cX8_endorsed 41 = .ok (.iastore, 1) := by decide +kernel
theorem dX8_endorsed_42 : decode cX8_endorsed 42 = .ok (.aload_n 0, 1) := by decide +kernel
theorem dX8_endorsed_43 : decode cX8_endorsed 43 = .ok (.getfield 88, 3) := by decide +kernel
theorem dX8_endorsed_46 : decode cX8_endorsed 46 = .ok (.iload_n 2, 1) := by decide +kernel
theorem dX8_endorsed_47 : decode cX8_endorsed 47 = .ok (.iaload, 1) := by decide +kernel
theorem dX8_endorsed_48 : decode cX8_endorsed 48 = .ok (.ireturn, 1) := by decide +kernel
theorem dX8_wouldEndorse_0 : decode cX8_wouldEndorse 0 = .ok (.aload_n 0, 1) := by decide +kernel
theorem dX8_wouldEndorse_1 : decode cX8_wouldEndorse 1 = .ok (.iconst 0, 1) := by decide +kernel
theorem dX8_wouldEndorse_2 : decode cX8_wouldEndorse 2 = .ok (.putfield 112, 3) := by decide +kernel
theorem dX8_wouldEndorse_5 : decode cX8_wouldEndorse 5 = .ok (.aload_n 0, 1) := by decide +kernel
theorem dX8_wouldEndorse_6 : decode cX8_wouldEndorse 6 = .ok (.iload_n 1, 1) := by decide +kernel
theorem dX8_wouldEndorse_7 : decode cX8_wouldEndorse 7 = .ok (.iload_n 2, 1) := by decide +kernel
theorem dX8_wouldEndorse_8 : decode cX8_wouldEndorse 8 = .ok (.iload_n 3, 1) := by decide +kernel
theorem dX8_wouldEndorse_9 : decode cX8_wouldEndorse 9 = .ok (.invokevirtual 413, 3) := by decide +kernel
theorem dX8_wouldEndorse_12 : decode cX8_wouldEndorse 12 = .ok (.istore 4, 2) := by decide +kernel
theorem dX8_wouldEndorse_14 : decode cX8_wouldEndorse 14 = .ok (.iload 4, 2) := by decide +kernel
theorem dX8_wouldEndorse_16 : decode cX8_wouldEndorse 16 = .ok (.ifCond .ge 8, 3) := by decide +kernel
theorem dX8_wouldEndorse_19 : decode cX8_wouldEndorse 19 = .ok (.iload 4, 2) := by decide +kernel
theorem dX8_wouldEndorse_21 : decode cX8_wouldEndorse 21 = .ok (.goto 10, 3) := by decide +kernel
theorem dX8_wouldEndorse_24 : decode cX8_wouldEndorse 24 = .ok (.aload_n 0, 1) := by decide +kernel
theorem dX8_wouldEndorse_25 : decode cX8_wouldEndorse 25 = .ok (.iload_n 1, 1) := by decide +kernel
theorem dX8_wouldEndorse_26 : decode cX8_wouldEndorse 26 = .ok (.iload_n 2, 1) := by decide +kernel
theorem dX8_wouldEndorse_27 : decode cX8_wouldEndorse 27 = .ok (.iload_n 3, 1) := by decide +kernel
theorem dX8_wouldEndorse_28 : decode cX8_wouldEndorse 28 = .ok (.invokevirtual 432, 3) := by decide +kernel
theorem dX8_wouldEndorse_31 : decode cX8_wouldEndorse 31 = .ok (.ireturn, 1) := by decide +kernel
theorem dX8_cheapest_0 : decode cX8_cheapest 0 = .ok (.aload_n 0, 1) := by decide +kernel
theorem dX8_cheapest_1 : decode cX8_cheapest 1 = .ok (.iconst 0, 1) := by decide +kernel
theorem dX8_cheapest_2 : decode cX8_cheapest 2 = .ok (.putfield 112, 3) := by decide +kernel
theorem dX8_cheapest_5 : decode cX8_cheapest 5 = .ok (.iload_n 3, 1) := by decide +kernel
theorem dX8_cheapest_6 : decode cX8_cheapest 6 = .ok (.ifCond .lt 8, 3) := by decide +kernel
theorem dX8_cheapest_9 : decode cX8_cheapest 9 = .ok (.iload_n 3, 1) := by decide +kernel
theorem dX8_cheapest_10 : decode cX8_cheapest 10 = .ok (.iconst 1, 1) := by decide +kernel
theorem dX8_cheapest_11 : decode cX8_cheapest 11 = .ok (.if_icmp .le 5, 3) := by decide +kernel
theorem dX8_cheapest_14 : decode cX8_cheapest 14 = .ok (.iconst (-1), 1) := by decide +kernel
theorem dX8_cheapest_15 : decode cX8_cheapest 15 = .ok (.ireturn, 1) := by decide +kernel
theorem dX8_cheapest_16 : decode cX8_cheapest 16 = .ok (.aload_n 0, 1) := by decide +kernel
theorem dX8_cheapest_17 : decode cX8_cheapest 17 = .ok (.iload_n 1, 1) := by decide +kernel
theorem dX8_cheapest_18 : decode cX8_cheapest 18 = .ok (.iload_n 2, 1) := by decide +kernel
theorem dX8_cheapest_19 : decode cX8_cheapest 19 = .ok (.iconst 0, 1) := by decide +kernel
theorem dX8_cheapest_20 : decode cX8_cheapest 20 = .ok (.invokevirtual 413, 3) := by decide +kernel
theorem dX8_cheapest_23 : decode cX8_cheapest 23 = .ok (.istore 4, 2) := by decide +kernel
theorem dX8_cheapest_25 : decode cX8_cheapest 25 = .ok (.iload 4, 2) := by decide +kernel
theorem dX8_cheapest_27 : decode cX8_cheapest 27 = .ok (.ifCond .ge 6, 3) := by decide +kernel
theorem dX8_cheapest_30 : decode cX8_cheapest 30 = .ok (.iload 4, 2) := by decide +kernel
theorem dX8_cheapest_32 : decode cX8_cheapest 32 = .ok (.ireturn, 1) := by decide +kernel
theorem dX8_cheapest_33 : decode cX8_cheapest 33 = .ok (.iconst 0, 1) := by decide +kernel
theorem dX8_cheapest_34 : decode cX8_cheapest 34 = .ok (.istore 5, 2) := by decide +kernel
theorem dX8_cheapest_36 : decode cX8_cheapest 36 = .ok (.aload_n 0, 1) := by decide +kernel
theorem dX8_cheapest_37 : decode cX8_cheapest 37 = .ok (.iload_n 1, 1) := by decide +kernel
theorem dX8_cheapest_38 : decode cX8_cheapest 38 = .ok (.iload_n 2, 1) := by decide +kernel
theorem dX8_cheapest_39 : decode cX8_cheapest 39 = .ok (.iconst 0, 1) := by decide +kernel
theorem dX8_cheapest_40 : decode cX8_cheapest 40 = .ok (.invokevirtual 432, 3) := by decide +kernel
theorem dX8_cheapest_43 : decode cX8_cheapest 43 = .ok (.istore 6, 2) := by decide +kernel
theorem dX8_cheapest_45 : decode cX8_cheapest 45 = .ok (.iconst 1, 1) := by decide +kernel
theorem dX8_cheapest_46 : decode cX8_cheapest 46 = .ok (.istore 7, 2) := by decide +kernel
theorem dX8_cheapest_48 : decode cX8_cheapest 48 = .ok (.iload 7, 2) := by decide +kernel
theorem dX8_cheapest_50 : decode cX8_cheapest 50 = .ok (.aload_n 0, 1) := by decide +kernel
theorem dX8_cheapest_51 : decode cX8_cheapest 51 = .ok (.getfield 189, 3) := by decide +kernel
theorem dX8_cheapest_54 : decode cX8_cheapest 54 = .ok (.if_icmp .ge 37, 3) := by decide +kernel
theorem dX8_cheapest_57 : decode cX8_cheapest 57 = .ok (.aload_n 0, 1) := by decide +kernel
theorem dX8_cheapest_58 : decode cX8_cheapest 58 = .ok (.iload_n 1, 1) := by decide +kernel
theorem dX8_cheapest_59 : decode cX8_cheapest 59 = .ok (.iload_n 2, 1) := by decide +kernel
theorem dX8_cheapest_60 : decode cX8_cheapest 60 = .ok (.iload 7, 2) := by decide +kernel
theorem dX8_cheapest_62 : decode cX8_cheapest 62 = .ok (.invokevirtual 432, 3) := by decide +kernel
theorem dX8_cheapest_65 : decode cX8_cheapest 65 = .ok (.istore 8, 2) := by decide +kernel
theorem dX8_cheapest_67 : decode cX8_cheapest 67 = .ok (.iload 8, 2) := by decide +kernel
theorem dX8_cheapest_69 : decode cX8_cheapest 69 = .ok (.iload 6, 2) := by decide +kernel
theorem dX8_cheapest_71 : decode cX8_cheapest 71 = .ok (.if_icmp .lt 6, 3) := by decide +kernel
theorem dX8_cheapest_74 : decode cX8_cheapest 74 = .ok (.goto 11, 3) := by decide +kernel
theorem dX8_cheapest_77 : decode cX8_cheapest 77 = .ok (.iload 7, 2) := by decide +kernel
theorem dX8_cheapest_79 : decode cX8_cheapest 79 = .ok (.istore 5, 2) := by decide +kernel
theorem dX8_cheapest_81 : decode cX8_cheapest 81 = .ok (.iload 8, 2) := by decide +kernel
theorem dX8_cheapest_83 : decode cX8_cheapest 83 = .ok (.istore 6, 2) := by decide +kernel
theorem dX8_cheapest_85 : decode cX8_cheapest 85 = .ok (.iinc 7 1, 3) := by decide +kernel
theorem dX8_cheapest_88 : decode cX8_cheapest 88 = .ok (.goto (-40), 3) := by decide +kernel
theorem dX8_cheapest_91 : decode cX8_cheapest 91 = .ok (.iload_n 3, 1) := by decide +kernel
theorem dX8_cheapest_92 : decode cX8_cheapest 92 = .ok (.ifCond .ne 8, 3) := by decide +kernel
theorem dX8_cheapest_95 : decode cX8_cheapest 95 = .ok (.iload 5, 2) := by decide +kernel
theorem dX8_cheapest_97 : decode cX8_cheapest 97 = .ok (.goto 5, 3) := by decide +kernel
theorem dX8_cheapest_100 : decode cX8_cheapest 100 = .ok (.iload 6, 2) := by decide +kernel
theorem dX8_cheapest_102 : decode cX8_cheapest 102 = .ok (.ireturn, 1) := by decide +kernel
theorem dX8_carrier_0 : decode cX8_carrier 0 = .ok (.aload_n 0, 1) := by decide +kernel
theorem dX8_carrier_1 : decode cX8_carrier 1 = .ok (.iconst 0, 1) := by decide +kernel
theorem dX8_carrier_2 : decode cX8_carrier 2 = .ok (.putfield 112, 3) := by decide +kernel
theorem dX8_carrier_5 : decode cX8_carrier 5 = .ok (.aload_n 0, 1) := by decide +kernel
theorem dX8_carrier_6 : decode cX8_carrier 6 = .ok (.iload_n 1, 1) := by decide +kernel
theorem dX8_carrier_7 : decode cX8_carrier 7 = .ok (.invokevirtual 315, 3) := by decide +kernel
theorem dX8_carrier_10 : decode cX8_carrier 10 = .ok (.ifCond .eq 12, 3) := by decide +kernel
theorem dX8_carrier_13 : decode cX8_carrier 13 = .ok (.iload_n 2, 1) := by decide +kernel
theorem dX8_carrier_14 : decode cX8_carrier 14 = .ok (.ifCond .lt 8, 3) := by decide +kernel
theorem dX8_carrier_17 : decode cX8_carrier 17 = .ok (.iload_n 2, 1) := by decide +kernel
theorem dX8_carrier_18 : decode cX8_carrier 18 = .ok (.iconst 5, 1) := by decide +kernel
theorem dX8_carrier_19 : decode cX8_carrier 19 = .ok (.if_icmp .le 5, 3) := by decide +kernel
theorem dX8_carrier_22 : decode cX8_carrier 22 = .ok (.iconst (-1), 1) := by decide +kernel
theorem dX8_carrier_23 : decode cX8_carrier 23 = .ok (.ireturn, 1) := by decide +kernel
theorem dX8_carrier_24 : decode cX8_carrier 24 = .ok (.iconst 0, 1) := by decide +kernel
theorem dX8_carrier_25 : decode cX8_carrier 25 = .ok (.istore_n 3, 1) := by decide +kernel
theorem dX8_carrier_26 : decode cX8_carrier 26 = .ok (.iconst 0, 1) := by decide +kernel
theorem dX8_carrier_27 : decode cX8_carrier 27 = .ok (.istore 4, 2) := by decide +kernel
theorem dX8_carrier_29 : decode cX8_carrier 29 = .ok (.iload 4, 2) := by decide +kernel
theorem dX8_carrier_31 : decode cX8_carrier 31 = .ok (.aload_n 0, 1) := by decide +kernel
theorem dX8_carrier_32 : decode cX8_carrier 32 = .ok (.getfield 192, 3) := by decide +kernel
theorem dX8_carrier_35 : decode cX8_carrier 35 = .ok (.if_icmp .ge 90, 3) := by decide +kernel
theorem dX8_carrier_38 : decode cX8_carrier 38 = .ok (.iload_n 2, 1) := by decide +kernel
theorem dX8_carrier_39 : decode cX8_carrier 39 = .ok (.iconst 5, 1) := by decide +kernel
theorem dX8_carrier_40 : decode cX8_carrier 40 = .ok (.if_icmp .ne 29, 3) := by decide +kernel
theorem dX8_carrier_43 : decode cX8_carrier 43 = .ok (.iload_n 3, 1) := by decide +kernel
theorem dX8_carrier_44 : decode cX8_carrier 44 = .ok (.aload_n 0, 1) := by decide +kernel
theorem dX8_carrier_45 : decode cX8_carrier 45 = .ok (.getfield 25, 3) := by decide +kernel
theorem dX8_carrier_48 : decode cX8_carrier 48 = .ok (.iconst 4, 1) := by decide +kernel
theorem dX8_carrier_49 : decode cX8_carrier 49 = .ok (.iload 4, 2) := by decide +kernel
theorem dX8_carrier_51 : decode cX8_carrier 51 = .ok (.imul, 1) := by decide +kernel
theorem dX8_carrier_52 : decode cX8_carrier 52 = .ok (.iconst 3, 1) := by decide +kernel
theorem dX8_carrier_53 : decode cX8_carrier 53 = .ok (.iadd, 1) := by decide +kernel
theorem dX8_carrier_54 : decode cX8_carrier 54 = .ok (.iaload, 1) := by decide +kernel
theorem dX8_carrier_55 : decode cX8_carrier 55 = .ok (.iload_n 1, 1) := by decide +kernel
theorem dX8_carrier_56 : decode cX8_carrier 56 = .ok (.if_icmp .ne 7, 3) := by decide +kernel
theorem dX8_carrier_59 : decode cX8_carrier 59 = .ok (.iconst 1, 1) := by decide +kernel
theorem dX8_carrier_60 : decode cX8_carrier 60 = .ok (.goto 4, 3) := by decide +kernel
theorem dX8_carrier_63 : decode cX8_carrier 63 = .ok (.iconst 0, 1) := by decide +kernel
theorem dX8_carrier_64 : decode cX8_carrier 64 = .ok (.iadd, 1) := by decide +kernel
theorem dX8_carrier_65 : decode cX8_carrier 65 = .ok (.istore_n 3, 1) := by decide +kernel
theorem dX8_carrier_66 : decode cX8_carrier 66 = .ok (.goto 53, 3) := by decide +kernel
theorem dX8_carrier_69 : decode cX8_carrier 69 = .ok (.aload_n 0, 1) := by decide +kernel
theorem dX8_carrier_70 : decode cX8_carrier 70 = .ok (.iload 4, 2) := by decide +kernel
theorem dX8_carrier_72 : decode cX8_carrier 72 = .ok (.invokevirtual 396, 3) := by decide +kernel
theorem dX8_carrier_75 : decode cX8_carrier 75 = .ok (.iconst 0, 1) := by decide +kernel
theorem dX8_carrier_76 : decode cX8_carrier 76 = .ok (.istore 5, 2) := by decide +kernel
theorem dX8_carrier_78 : decode cX8_carrier 78 = .ok (.iload 5, 2) := by decide +kernel
theorem dX8_carrier_80 : decode cX8_carrier 80 = .ok (.aload_n 0, 1) := by decide +kernel
theorem dX8_carrier_81 : decode cX8_carrier 81 = .ok (.iload 4, 2) := by decide +kernel
theorem dX8_carrier_83 : decode cX8_carrier 83 = .ok (.invokevirtual 301, 3) := by decide +kernel
theorem dX8_carrier_86 : decode cX8_carrier 86 = .ok (.if_icmp .ge 33, 3) := by decide +kernel
theorem dX8_carrier_89 : decode cX8_carrier 89 = .ok (.aload_n 0, 1) := by decide +kernel
theorem dX8_carrier_90 : decode cX8_carrier 90 = .ok (.iload 4, 2) := by decide +kernel
theorem dX8_carrier_92 : decode cX8_carrier 92 = .ok (.iload 5, 2) := by decide +kernel
theorem dX8_carrier_94 : decode cX8_carrier 94 = .ok (.invokevirtual 321, 3) := by decide +kernel
theorem dX8_carrier_97 : decode cX8_carrier 97 = .ok (.iload_n 1, 1) := by decide +kernel
theorem dX8_carrier_98 : decode cX8_carrier 98 = .ok (.if_icmp .ne 15, 3) := by decide +kernel
theorem dX8_carrier_101 : decode cX8_carrier 101 = .ok (.iload_n 3, 1) := by decide +kernel
theorem dX8_carrier_102 : decode cX8_carrier 102 = .ok (.aload_n 0, 1) := by decide +kernel
theorem dX8_carrier_103 : decode cX8_carrier 103 = .ok (.iload 4, 2) := by decide +kernel
theorem dX8_carrier_105 : decode cX8_carrier 105 = .ok (.iload 5, 2) := by decide +kernel
theorem dX8_carrier_107 : decode cX8_carrier 107 = .ok (.iload_n 2, 1) := by decide +kernel
theorem dX8_carrier_108 : decode cX8_carrier 108 = .ok (.invokevirtual 435, 3) := by decide +kernel
theorem dX8_carrier_111 : decode cX8_carrier 111 = .ok (.iadd, 1) := by decide +kernel
theorem dX8_carrier_112 : decode cX8_carrier 112 = .ok (.istore_n 3, 1) := by decide +kernel
theorem dX8_carrier_113 : decode cX8_carrier 113 = .ok (.iinc 5 1, 3) := by decide +kernel
theorem dX8_carrier_116 : decode cX8_carrier 116 = .ok (.goto (-38), 3) := by decide +kernel
theorem dX8_carrier_119 : decode cX8_carrier 119 = .ok (.iinc 4 1, 3) := by decide +kernel
theorem dX8_carrier_122 : decode cX8_carrier 122 = .ok (.goto (-93), 3) := by decide +kernel
theorem dX8_carrier_125 : decode cX8_carrier 125 = .ok (.iload_n 3, 1) := by decide +kernel
theorem dX8_carrier_126 : decode cX8_carrier 126 = .ok (.ireturn, 1) := by decide +kernel
theorem dX8_ofCoupon_0 : decode cX8_ofCoupon 0 = .ok (.aload_n 0, 1) := by decide +kernel
theorem dX8_ofCoupon_1 : decode cX8_ofCoupon 1 = .ok (.iload_n 1, 1) := by decide +kernel
theorem dX8_ofCoupon_2 : decode cX8_ofCoupon 2 = .ok (.iload_n 2, 1) := by decide +kernel
theorem dX8_ofCoupon_3 : decode cX8_ofCoupon 3 = .ok (.invokevirtual 345, 3) := by decide +kernel
theorem dX8_ofCoupon_6 : decode cX8_ofCoupon 6 = .ok (.istore 4, 2) := by decide +kernel
theorem dX8_ofCoupon_8 : decode cX8_ofCoupon 8 = .ok (.iload 4, 2) := by decide +kernel
theorem dX8_ofCoupon_10 : decode cX8_ofCoupon 10 = .ok (.ifCond .ne 15, 3) := by decide +kernel
theorem dX8_ofCoupon_13 : decode cX8_ofCoupon 13 = .ok (.aload_n 0, 1) := by decide +kernel
theorem dX8_ofCoupon_14 : decode cX8_ofCoupon 14 = .ok (.iload_n 1, 1) := by decide +kernel
theorem dX8_ofCoupon_15 : decode cX8_ofCoupon 15 = .ok (.invokevirtual 404, 3) := by decide +kernel
theorem dX8_ofCoupon_18 : decode cX8_ofCoupon 18 = .ok (.ifCond .ne 7, 3) := by decide +kernel
theorem dX8_ofCoupon_21 : decode cX8_ofCoupon 21 = .ok (.iconst 1, 1) := by decide +kernel
theorem dX8_ofCoupon_22 : decode cX8_ofCoupon 22 = .ok (.goto 4, 3) := by decide +kernel
theorem dX8_ofCoupon_25 : decode cX8_ofCoupon 25 = .ok (.iconst 0, 1) := by decide +kernel
theorem dX8_ofCoupon_26 : decode cX8_ofCoupon 26 = .ok (.istore 5, 2) := by decide +kernel
theorem dX8_ofCoupon_28 : decode cX8_ofCoupon 28 = .ok (.iload_n 3, 1) := by decide +kernel
theorem dX8_ofCoupon_29 : decode cX8_ofCoupon 29 = .ok (.tableswitch 90 0 3 #[31, 47, 63, 79], 31) := by decide +kernel
theorem dX8_ofCoupon_60 : decode cX8_ofCoupon 60 = .ok (.iload 4, 2) := by decide +kernel
theorem dX8_ofCoupon_62 : decode cX8_ofCoupon 62 = .ok (.ifCond .eq 12, 3) := by decide +kernel
theorem dX8_ofCoupon_65 : decode cX8_ofCoupon 65 = .ok (.aload_n 0, 1) := by decide +kernel
theorem dX8_ofCoupon_66 : decode cX8_ofCoupon 66 = .ok (.getfield 88, 3) := by decide +kernel
theorem dX8_ofCoupon_69 : decode cX8_ofCoupon 69 = .ok (.iload_n 2, 1) := by decide +kernel
theorem dX8_ofCoupon_70 : decode cX8_ofCoupon 70 = .ok (.iaload, 1) := by decide +kernel
theorem dX8_ofCoupon_71 : decode cX8_ofCoupon 71 = .ok (.goto 4, 3) := by decide +kernel
theorem dX8_ofCoupon_74 : decode cX8_ofCoupon 74 = .ok (.iconst 0, 1) := by decide +kernel
theorem dX8_ofCoupon_75 : decode cX8_ofCoupon 75 = .ok (.ireturn, 1) := by decide +kernel
theorem dX8_ofCoupon_76 : decode cX8_ofCoupon 76 = .ok (.iload 5, 2) := by decide +kernel
theorem dX8_ofCoupon_78 : decode cX8_ofCoupon 78 = .ok (.ifCond .eq 12, 3) := by decide +kernel
theorem dX8_ofCoupon_81 : decode cX8_ofCoupon 81 = .ok (.aload_n 0, 1) := by decide +kernel
theorem dX8_ofCoupon_82 : decode cX8_ofCoupon 82 = .ok (.getfield 88, 3) := by decide +kernel
theorem dX8_ofCoupon_85 : decode cX8_ofCoupon 85 = .ok (.iload_n 2, 1) := by decide +kernel
theorem dX8_ofCoupon_86 : decode cX8_ofCoupon 86 = .ok (.iaload, 1) := by decide +kernel
theorem dX8_ofCoupon_87 : decode cX8_ofCoupon 87 = .ok (.goto 4, 3) := by decide +kernel
theorem dX8_ofCoupon_90 : decode cX8_ofCoupon 90 = .ok (.iconst 0, 1) := by decide +kernel
theorem dX8_ofCoupon_91 : decode cX8_ofCoupon 91 = .ok (.ireturn, 1) := by decide +kernel
theorem dX8_ofCoupon_92 : decode cX8_ofCoupon 92 = .ok (.iload 4, 2) := by decide +kernel
theorem dX8_ofCoupon_94 : decode cX8_ofCoupon 94 = .ok (.ifCond .eq 12, 3) := by decide +kernel
theorem dX8_ofCoupon_97 : decode cX8_ofCoupon 97 = .ok (.aload_n 0, 1) := by decide +kernel
theorem dX8_ofCoupon_98 : decode cX8_ofCoupon 98 = .ok (.iload_n 1, 1) := by decide +kernel
theorem dX8_ofCoupon_99 : decode cX8_ofCoupon 99 = .ok (.iload_n 2, 1) := by decide +kernel
theorem dX8_ofCoupon_100 : decode cX8_ofCoupon 100 = .ok (.invokevirtual 318, 3) := by decide +kernel
theorem dX8_ofCoupon_103 : decode cX8_ofCoupon 103 = .ok (.goto 4, 3) := by decide +kernel
theorem dX8_ofCoupon_106 : decode cX8_ofCoupon 106 = .ok (.iconst 0, 1) := by decide +kernel
theorem dX8_ofCoupon_107 : decode cX8_ofCoupon 107 = .ok (.ireturn, 1) := by decide +kernel
theorem dX8_ofCoupon_108 : decode cX8_ofCoupon 108 = .ok (.iload 4, 2) := by decide +kernel
theorem dX8_ofCoupon_110 : decode cX8_ofCoupon 110 = .ok (.ifCond .eq 7, 3) := by decide +kernel
theorem dX8_ofCoupon_113 : decode cX8_ofCoupon 113 = .ok (.iconst 1, 1) := by decide +kernel
theorem dX8_ofCoupon_114 : decode cX8_ofCoupon 114 = .ok (.goto 4, 3) := by decide +kernel
theorem dX8_ofCoupon_117 : decode cX8_ofCoupon 117 = .ok (.iconst 0, 1) := by decide +kernel
theorem dX8_ofCoupon_118 : decode cX8_ofCoupon 118 = .ok (.ireturn, 1) := by decide +kernel
theorem dX8_ofCoupon_119 : decode cX8_ofCoupon 119 = .ok (.iload 5, 2) := by decide +kernel
theorem dX8_ofCoupon_121 : decode cX8_ofCoupon 121 = .ok (.ifCond .eq 7, 3) := by decide +kernel
theorem dX8_ofCoupon_124 : decode cX8_ofCoupon 124 = .ok (.iconst 1, 1) := by decide +kernel
theorem dX8_ofCoupon_125 : decode cX8_ofCoupon 125 = .ok (.goto 4, 3) := by decide +kernel
theorem dX8_ofCoupon_128 : decode cX8_ofCoupon 128 = .ok (.iconst 0, 1) := by decide +kernel
theorem dX8_ofCoupon_129 : decode cX8_ofCoupon 129 = .ok (.ireturn, 1) := by decide +kernel
theorem dX8_perMile_0 : decode cX8_perMile 0 = .ok (.aload_n 0, 1) := by decide +kernel
theorem dX8_perMile_1 : decode cX8_perMile 1 = .ok (.iconst 0, 1) := by decide +kernel
theorem dX8_perMile_2 : decode cX8_perMile 2 = .ok (.putfield 112, 3) := by decide +kernel
theorem dX8_perMile_5 : decode cX8_perMile 5 = .ok (.aload_n 0, 1) := by decide +kernel
theorem dX8_perMile_6 : decode cX8_perMile 6 = .ok (.iload_n 1, 1) := by decide +kernel
theorem dX8_perMile_7 : decode cX8_perMile 7 = .ok (.invokevirtual 315, 3) := by decide +kernel
theorem dX8_perMile_10 : decode cX8_perMile 10 = .ok (.ifCond .ne 5, 3) := by decide +kernel
theorem dX8_perMile_13 : decode cX8_perMile 13 = .ok (.iconst (-1), 1) := by decide +kernel
theorem dX8_perMile_14 : decode cX8_perMile 14 = .ok (.ireturn, 1) := by decide +kernel
theorem dX8_perMile_15 : decode cX8_perMile 15 = .ok (.aload_n 0, 1) := by decide +kernel
theorem dX8_perMile_16 : decode cX8_perMile 16 = .ok (.iload_n 1, 1) := by decide +kernel
theorem dX8_perMile_17 : decode cX8_perMile 17 = .ok (.iconst 2, 1) := by decide +kernel
theorem dX8_perMile_18 : decode cX8_perMile 18 = .ok (.invokevirtual 438, 3) := by decide +kernel
theorem dX8_perMile_21 : decode cX8_perMile 21 = .ok (.istore_n 2, 1) := by decide +kernel
theorem dX8_perMile_22 : decode cX8_perMile 22 = .ok (.iload_n 2, 1) := by decide +kernel
theorem dX8_perMile_23 : decode cX8_perMile 23 = .ok (.ifCond .ne 8, 3) := by decide +kernel
theorem dX8_perMile_26 : decode cX8_perMile 26 = .ok (.bipush (-2), 2) := by decide +kernel
theorem dX8_perMile_28 : decode cX8_perMile 28 = .ok (.goto 11, 3) := by decide +kernel
theorem dX8_perMile_31 : decode cX8_perMile 31 = .ok (.aload_n 0, 1) := by decide +kernel
theorem dX8_perMile_32 : decode cX8_perMile 32 = .ok (.iload_n 1, 1) := by decide +kernel
theorem dX8_perMile_33 : decode cX8_perMile 33 = .ok (.iconst 0, 1) := by decide +kernel
theorem dX8_perMile_34 : decode cX8_perMile 34 = .ok (.invokevirtual 438, 3) := by decide +kernel
theorem dX8_perMile_37 : decode cX8_perMile 37 = .ok (.iload_n 2, 1) := by decide +kernel
theorem dX8_perMile_38 : decode cX8_perMile 38 = .ok (.idiv, 1) := by decide +kernel
theorem dX8_perMile_39 : decode cX8_perMile 39 = .ok (.ireturn, 1) := by decide +kernel
theorem dX8_ranked_0 : decode cX8_ranked 0 = .ok (.aload_n 0, 1) := by decide +kernel
theorem dX8_ranked_1 : decode cX8_ranked 1 = .ok (.iconst 0, 1) := by decide +kernel
theorem dX8_ranked_2 : decode cX8_ranked 2 = .ok (.putfield 112, 3) := by decide +kernel
theorem dX8_ranked_5 : decode cX8_ranked 5 = .ok (.iload_n 1, 1) := by decide +kernel
theorem dX8_ranked_6 : decode cX8_ranked 6 = .ok (.ifCond .ge 5, 3) := by decide +kernel
theorem dX8_ranked_9 : decode cX8_ranked 9 = .ok (.iconst (-1), 1) := by decide +kernel
theorem dX8_ranked_10 : decode cX8_ranked 10 = .ok (.ireturn, 1) := by decide +kernel
theorem dX8_ranked_11 : decode cX8_ranked 11 = .ok (.iconst 0, 1) := by decide +kernel
theorem dX8_ranked_12 : decode cX8_ranked 12 = .ok (.istore_n 2, 1) := by decide +kernel
theorem dX8_ranked_13 : decode cX8_ranked 13 = .ok (.iload_n 2, 1) := by decide +kernel
theorem dX8_ranked_14 : decode cX8_ranked 14 = .ok (.aload_n 0, 1) := by decide +kernel
theorem dX8_ranked_15 : decode cX8_ranked 15 = .ok (.getfield 189, 3) := by decide +kernel
theorem dX8_ranked_18 : decode cX8_ranked 18 = .ok (.if_icmp .ge 82, 3) := by decide +kernel
theorem dX8_ranked_21 : decode cX8_ranked 21 = .ok (.iconst 0, 1) := by decide +kernel
theorem dX8_ranked_22 : decode cX8_ranked 22 = .ok (.istore_n 3, 1) := by decide +kernel
theorem dX8_ranked_23 : decode cX8_ranked 23 = .ok (.iconst 0, 1) := by decide +kernel
theorem dX8_ranked_24 : decode cX8_ranked 24 = .ok (.istore 4, 2) := by decide +kernel
theorem dX8_ranked_26 : decode cX8_ranked 26 = .ok (.iload 4, 2) := by decide +kernel
theorem dX8_ranked_28 : decode cX8_ranked 28 = .ok (.aload_n 0, 1) := by decide +kernel
theorem dX8_ranked_29 : decode cX8_ranked 29 = .ok (.getfield 189, 3) := by decide +kernel
theorem dX8_ranked_32 : decode cX8_ranked 32 = .ok (.if_icmp .ge 55, 3) := by decide +kernel
theorem dX8_ranked_35 : decode cX8_ranked 35 = .ok (.aload_n 0, 1) := by decide +kernel
theorem dX8_ranked_36 : decode cX8_ranked 36 = .ok (.iload 4, 2) := by decide +kernel
theorem dX8_ranked_38 : decode cX8_ranked 38 = .ok (.bipush (-2), 2) := by decide +kernel
theorem dX8_ranked_40 : decode cX8_ranked 40 = .ok (.invokevirtual 400, 3) := by decide +kernel
theorem dX8_ranked_43 : decode cX8_ranked 43 = .ok (.aload_n 0, 1) := by decide +kernel
theorem dX8_ranked_44 : decode cX8_ranked 44 = .ok (.iload_n 2, 1) := by decide +kernel
theorem dX8_ranked_45 : decode cX8_ranked 45 = .ok (.bipush (-2), 2) := by decide +kernel
theorem dX8_ranked_47 : decode cX8_ranked 47 = .ok (.invokevirtual 400, 3) := by decide +kernel
theorem dX8_ranked_50 : decode cX8_ranked 50 = .ok (.lsub, 1) := by decide +kernel
theorem dX8_ranked_51 : decode cX8_ranked 51 = .ok (.lstore 5, 2) := by decide +kernel
theorem dX8_ranked_53 : decode cX8_ranked 53 = .ok (.iload_n 3, 1) := by decide +kernel
theorem dX8_ranked_54 : decode cX8_ranked 54 = .ok (.lload 5, 2) := by decide +kernel
theorem dX8_ranked_56 : decode cX8_ranked 56 = .ok (.lconst 0, 1) := by decide +kernel
theorem dX8_ranked_57 : decode cX8_ranked 57 = .ok (.lcmp, 1) := by decide +kernel
theorem dX8_ranked_58 : decode cX8_ranked 58 = .ok (.ifCond .gt 16, 3) := by decide +kernel
theorem dX8_ranked_61 : decode cX8_ranked 61 = .ok (.lload 5, 2) := by decide +kernel
theorem dX8_ranked_63 : decode cX8_ranked 63 = .ok (.lconst 0, 1) := by decide +kernel
theorem dX8_ranked_64 : decode cX8_ranked 64 = .ok (.lcmp, 1) := by decide +kernel
theorem dX8_ranked_65 : decode cX8_ranked 65 = .ok (.ifCond .ne 13, 3) := by decide +kernel
theorem dX8_ranked_68 : decode cX8_ranked 68 = .ok (.iload 4, 2) := by decide +kernel
theorem dX8_ranked_70 : decode cX8_ranked 70 = .ok (.iload_n 2, 1) := by decide +kernel
theorem dX8_ranked_71 : decode cX8_ranked 71 = .ok (.if_icmp .ge 7, 3) := by decide +kernel
theorem dX8_ranked_74 : decode cX8_ranked 74 = .ok (.iconst 1, 1) := by decide +kernel
theorem dX8_ranked_75 : decode cX8_ranked 75 = .ok (.goto 4, 3) := by decide +kernel
theorem dX8_ranked_78 : decode cX8_ranked 78 = .ok (.iconst 0, 1) := by decide +kernel
theorem dX8_ranked_79 : decode cX8_ranked 79 = .ok (.iadd, 1) := by decide +kernel
theorem dX8_ranked_80 : decode cX8_ranked 80 = .ok (.istore_n 3, 1) := by decide +kernel
theorem dX8_ranked_81 : decode cX8_ranked 81 = .ok (.iinc 4 1, 3) := by decide +kernel
theorem dX8_ranked_84 : decode cX8_ranked 84 = .ok (.goto (-58), 3) := by decide +kernel
theorem dX8_ranked_87 : decode cX8_ranked 87 = .ok (.iload_n 3, 1) := by decide +kernel
theorem dX8_ranked_88 : decode cX8_ranked 88 = .ok (.iload_n 1, 1) := by decide +kernel
theorem dX8_ranked_89 : decode cX8_ranked 89 = .ok (.if_icmp .ne 5, 3) := by decide +kernel
theorem dX8_ranked_92 : decode cX8_ranked 92 = .ok (.iload_n 2, 1) := by decide +kernel
theorem dX8_ranked_93 : decode cX8_ranked 93 = .ok (.ireturn, 1) := by decide +kernel
theorem dX8_ranked_94 : decode cX8_ranked 94 = .ok (.iinc 2 1, 3) := by decide +kernel
theorem dX8_ranked_97 : decode cX8_ranked 97 = .ok (.goto (-84), 3) := by decide +kernel
theorem dX8_ranked_100 : decode cX8_ranked 100 = .ok (.bipush (-2), 2) := by decide +kernel
theorem dX8_ranked_102 : decode cX8_ranked 102 = .ok (.ireturn, 1) := by decide +kernel
theorem dX8_most_0 : decode cX8_most 0 = .ok (.aload_n 0, 1) := by decide +kernel
theorem dX8_most_1 : decode cX8_most 1 = .ok (.iconst 0, 1) := by decide +kernel
theorem dX8_most_2 : decode cX8_most 2 = .ok (.putfield 112, 3) := by decide +kernel
theorem dX8_most_5 : decode cX8_most 5 = .ok (.aload_n 0, 1) := by decide +kernel
theorem dX8_most_6 : decode cX8_most 6 = .ok (.iload_n 1, 1) := by decide +kernel
theorem dX8_most_7 : decode cX8_most 7 = .ok (.invokevirtual 298, 3) := by decide +kernel
theorem dX8_most_10 : decode cX8_most 10 = .ok (.ifCond .eq 12, 3) := by decide +kernel
theorem dX8_most_13 : decode cX8_most 13 = .ok (.iload_n 2, 1) := by decide +kernel
theorem dX8_most_14 : decode cX8_most 14 = .ok (.ifCond .lt 8, 3) := by decide +kernel
theorem dX8_most_17 : decode cX8_most 17 = .ok (.iload_n 2, 1) := by decide +kernel
theorem dX8_most_18 : decode cX8_most 18 = .ok (.iconst 1, 1) := by decide +kernel
theorem dX8_most_19 : decode cX8_most 19 = .ok (.if_icmp .le 5, 3) := by decide +kernel
theorem dX8_most_22 : decode cX8_most 22 = .ok (.iconst (-1), 1) := by decide +kernel
theorem dX8_most_23 : decode cX8_most 23 = .ok (.ireturn, 1) := by decide +kernel
theorem dX8_most_24 : decode cX8_most 24 = .ok (.aload_n 0, 1) := by decide +kernel
theorem dX8_most_25 : decode cX8_most 25 = .ok (.iload_n 1, 1) := by decide +kernel
theorem dX8_most_26 : decode cX8_most 26 = .ok (.aload_n 0, 1) := by decide +kernel
theorem dX8_most_27 : decode cX8_most 27 = .ok (.getfield 25, 3) := by decide +kernel
theorem dX8_most_30 : decode cX8_most 30 = .ok (.iconst 4, 1) := by decide +kernel
theorem dX8_most_31 : decode cX8_most 31 = .ok (.iload_n 1, 1) := by decide +kernel
theorem dX8_most_32 : decode cX8_most 32 = .ok (.imul, 1) := by decide +kernel
theorem dX8_most_33 : decode cX8_most 33 = .ok (.iconst 1, 1) := by decide +kernel
theorem dX8_most_34 : decode cX8_most 34 = .ok (.iadd, 1) := by decide +kernel
theorem dX8_most_35 : decode cX8_most 35 = .ok (.iaload, 1) := by decide +kernel
theorem dX8_most_36 : decode cX8_most 36 = .ok (.bipush (-2), 2) := by decide +kernel
theorem dX8_most_38 : decode cX8_most 38 = .ok (.iconst 1, 1) := by decide +kernel
theorem dX8_most_39 : decode cX8_most 39 = .ok (.invokevirtual 383, 3) := by decide +kernel
theorem dX8_most_42 : decode cX8_most 42 = .ok (.iconst 0, 1) := by decide +kernel
theorem dX8_most_43 : decode cX8_most 43 = .ok (.istore_n 3, 1) := by decide +kernel
theorem dX8_most_44 : decode cX8_most 44 = .ok (.iload_n 3, 1) := by decide +kernel
theorem dX8_most_45 : decode cX8_most 45 = .ok (.aload_n 0, 1) := by decide +kernel
theorem dX8_most_46 : decode cX8_most 46 = .ok (.iload_n 1, 1) := by decide +kernel
theorem dX8_most_47 : decode cX8_most 47 = .ok (.invokevirtual 301, 3) := by decide +kernel
theorem dX8_most_50 : decode cX8_most 50 = .ok (.if_icmp .ge 21, 3) := by decide +kernel
theorem dX8_most_53 : decode cX8_most 53 = .ok (.aload_n 0, 1) := by decide +kernel
theorem dX8_most_54 : decode cX8_most 54 = .ok (.getfield 91, 3) := by decide +kernel
theorem dX8_most_57 : decode cX8_most 57 = .ok (.iload_n 3, 1) := by decide +kernel
theorem dX8_most_58 : decode cX8_most 58 = .ok (.aload_n 0, 1) := by decide +kernel
theorem dX8_most_59 : decode cX8_most 59 = .ok (.getfield 88, 3) := by decide +kernel
theorem dX8_most_62 : decode cX8_most 62 = .ok (.iload_n 3, 1) := by decide +kernel
theorem dX8_most_63 : decode cX8_most 63 = .ok (.iaload, 1) := by decide +kernel
theorem dX8_most_64 : decode cX8_most 64 = .ok (.iastore, 1) := by decide +kernel
theorem dX8_most_65 : decode cX8_most 65 = .ok (.iinc 3 1, 3) := by decide +kernel
theorem dX8_most_68 : decode cX8_most 68 = .ok (.goto (-24), 3) := by decide +kernel
theorem dX8_most_71 : decode cX8_most 71 = .ok (.aload_n 0, 1) := by decide +kernel
theorem dX8_most_72 : decode cX8_most 72 = .ok (.iload_n 1, 1) := by decide +kernel
theorem dX8_most_73 : decode cX8_most 73 = .ok (.invokevirtual 396, 3) := by decide +kernel
theorem dX8_most_76 : decode cX8_most 76 = .ok (.iconst 0, 1) := by decide +kernel
theorem dX8_most_77 : decode cX8_most 77 = .ok (.istore_n 3, 1) := by decide +kernel
theorem dX8_most_78 : decode cX8_most 78 = .ok (.iconst 1, 1) := by decide +kernel
theorem dX8_most_79 : decode cX8_most 79 = .ok (.istore 4, 2) := by decide +kernel
theorem dX8_most_81 : decode cX8_most 81 = .ok (.iload 4, 2) := by decide +kernel
theorem dX8_most_83 : decode cX8_most 83 = .ok (.aload_n 0, 1) := by decide +kernel
theorem dX8_most_84 : decode cX8_most 84 = .ok (.iload_n 1, 1) := by decide +kernel
theorem dX8_most_85 : decode cX8_most 85 = .ok (.invokevirtual 301, 3) := by decide +kernel
theorem dX8_most_88 : decode cX8_most 88 = .ok (.if_icmp .ge 49, 3) := by decide +kernel
theorem dX8_most_91 : decode cX8_most 91 = .ok (.aload_n 0, 1) := by decide +kernel
theorem dX8_most_92 : decode cX8_most 92 = .ok (.getfield 88, 3) := by decide +kernel
theorem dX8_most_95 : decode cX8_most 95 = .ok (.iload 4, 2) := by decide +kernel
theorem dX8_most_97 : decode cX8_most 97 = .ok (.iaload, 1) := by decide +kernel
theorem dX8_most_98 : decode cX8_most 98 = .ok (.aload_n 0, 1) := by decide +kernel
theorem dX8_most_99 : decode cX8_most 99 = .ok (.getfield 91, 3) := by decide +kernel
theorem dX8_most_102 : decode cX8_most 102 = .ok (.iload 4, 2) := by decide +kernel
theorem dX8_most_104 : decode cX8_most 104 = .ok (.iaload, 1) := by decide +kernel
theorem dX8_most_105 : decode cX8_most 105 = .ok (.isub, 1) := by decide +kernel
theorem dX8_most_106 : decode cX8_most 106 = .ok (.invokestatic 441, 3) := by decide +kernel
theorem dX8_most_109 : decode cX8_most 109 = .ok (.aload_n 0, 1) := by decide +kernel
theorem dX8_most_110 : decode cX8_most 110 = .ok (.getfield 88, 3) := by decide +kernel
theorem dX8_most_113 : decode cX8_most 113 = .ok (.iload_n 3, 1) := by decide +kernel
theorem dX8_most_114 : decode cX8_most 114 = .ok (.iaload, 1) := by decide +kernel
theorem dX8_most_115 : decode cX8_most 115 = .ok (.aload_n 0, 1) := by decide +kernel
theorem dX8_most_116 : decode cX8_most 116 = .ok (.getfield 91, 3) := by decide +kernel
theorem dX8_most_119 : decode cX8_most 119 = .ok (.iload_n 3, 1) := by decide +kernel
theorem dX8_most_120 : decode cX8_most 120 = .ok (.iaload, 1) := by decide +kernel
theorem dX8_most_121 : decode cX8_most 121 = .ok (.isub, 1) := by decide +kernel
theorem dX8_most_122 : decode cX8_most 122 = .ok (.invokestatic 441, 3) := by decide +kernel
theorem dX8_most_125 : decode cX8_most 125 = .ok (.if_icmp .le 6, 3) := by decide +kernel
theorem dX8_most_128 : decode cX8_most 128 = .ok (.iload 4, 2) := by decide +kernel
theorem dX8_most_130 : decode cX8_most 130 = .ok (.istore_n 3, 1) := by decide +kernel
theorem dX8_most_131 : decode cX8_most 131 = .ok (.iinc 4 1, 3) := by decide +kernel
theorem dX8_most_134 : decode cX8_most 134 = .ok (.goto (-53), 3) := by decide +kernel
theorem dX8_most_137 : decode cX8_most 137 = .ok (.iload_n 2, 1) := by decide +kernel
theorem dX8_most_138 : decode cX8_most 138 = .ok (.ifCond .ne 7, 3) := by decide +kernel
theorem dX8_most_141 : decode cX8_most 141 = .ok (.iload_n 3, 1) := by decide +kernel
theorem dX8_most_142 : decode cX8_most 142 = .ok (.goto 16, 3) := by decide +kernel
theorem dX8_most_145 : decode cX8_most 145 = .ok (.aload_n 0, 1) := by decide +kernel
theorem dX8_most_146 : decode cX8_most 146 = .ok (.getfield 88, 3) := by decide +kernel
theorem dX8_most_149 : decode cX8_most 149 = .ok (.iload_n 3, 1) := by decide +kernel
theorem dX8_most_150 : decode cX8_most 150 = .ok (.iaload, 1) := by decide +kernel
theorem dX8_most_151 : decode cX8_most 151 = .ok (.aload_n 0, 1) := by decide +kernel
theorem dX8_most_152 : decode cX8_most 152 = .ok (.getfield 91, 3) := by decide +kernel
theorem dX8_most_155 : decode cX8_most 155 = .ok (.iload_n 3, 1) := by decide +kernel
theorem dX8_most_156 : decode cX8_most 156 = .ok (.iaload, 1) := by decide +kernel
theorem dX8_most_157 : decode cX8_most 157 = .ok (.isub, 1) := by decide +kernel
theorem dX8_most_158 : decode cX8_most 158 = .ok (.ireturn, 1) := by decide +kernel
theorem dX8_may_0 : decode cX8_may 0 = .ok (.aload_n 0, 1) := by decide +kernel
theorem dX8_may_1 : decode cX8_may 1 = .ok (.iconst 0, 1) := by decide +kernel
theorem dX8_may_2 : decode cX8_may 2 = .ok (.putfield 112, 3) := by decide +kernel
theorem dX8_may_5 : decode cX8_may 5 = .ok (.aload_n 0, 1) := by decide +kernel
theorem dX8_may_6 : decode cX8_may 6 = .ok (.iload_n 1, 1) := by decide +kernel
theorem dX8_may_7 : decode cX8_may 7 = .ok (.invokevirtual 298, 3) := by decide +kernel
theorem dX8_may_10 : decode cX8_may 10 = .ok (.ifCond .eq 12, 3) := by decide +kernel
theorem dX8_may_13 : decode cX8_may 13 = .ok (.iload_n 2, 1) := by decide +kernel
theorem dX8_may_14 : decode cX8_may 14 = .ok (.ifCond .lt 8, 3) := by decide +kernel
theorem dX8_may_17 : decode cX8_may 17 = .ok (.iload_n 2, 1) := by decide +kernel
theorem dX8_may_18 : decode cX8_may 18 = .ok (.iconst 1, 1) := by decide +kernel
theorem dX8_may_19 : decode cX8_may 19 = .ok (.if_icmp .le 5, 3) := by decide +kernel
theorem dX8_may_22 : decode cX8_may 22 = .ok (.iconst (-1), 1) := by decide +kernel
theorem dX8_may_23 : decode cX8_may 23 = .ok (.ireturn, 1) := by decide +kernel
theorem dX8_may_24 : decode cX8_may 24 = .ok (.aload_n 0, 1) := by decide +kernel
theorem dX8_may_25 : decode cX8_may 25 = .ok (.iload_n 1, 1) := by decide +kernel
theorem dX8_may_26 : decode cX8_may 26 = .ok (.invokevirtual 404, 3) := by decide +kernel
theorem dX8_may_29 : decode cX8_may 29 = .ok (.ifCond .eq 5, 3) := by decide +kernel
theorem dX8_may_32 : decode cX8_may 32 = .ok (.iconst 0, 1) := by decide +kernel
theorem dX8_may_33 : decode cX8_may 33 = .ok (.ireturn, 1) := by decide +kernel
theorem dX8_may_34 : decode cX8_may 34 = .ok (.iconst 0, 1) := by decide +kernel
theorem dX8_may_35 : decode cX8_may 35 = .ok (.istore_n 3, 1) := by decide +kernel
theorem dX8_may_36 : decode cX8_may 36 = .ok (.iconst 0, 1) := by decide +kernel
theorem dX8_may_37 : decode cX8_may 37 = .ok (.istore 4, 2) := by decide +kernel
theorem dX8_may_39 : decode cX8_may 39 = .ok (.iload 4, 2) := by decide +kernel
theorem dX8_may_41 : decode cX8_may 41 = .ok (.aload_n 0, 1) := by decide +kernel
theorem dX8_may_42 : decode cX8_may 42 = .ok (.iload_n 1, 1) := by decide +kernel
theorem dX8_may_43 : decode cX8_may 43 = .ok (.invokevirtual 301, 3) := by decide +kernel
theorem dX8_may_46 : decode cX8_may 46 = .ok (.if_icmp .ge 64, 3) := by decide +kernel
theorem dX8_may_49 : decode cX8_may 49 = .ok (.iload_n 2, 1) := by decide +kernel
theorem dX8_may_50 : decode cX8_may 50 = .ok (.ifCond .ne 21, 3) := by decide +kernel
theorem dX8_may_53 : decode cX8_may 53 = .ok (.aload_n 0, 1) := by decide +kernel
theorem dX8_may_54 : decode cX8_may 54 = .ok (.iload_n 1, 1) := by decide +kernel
theorem dX8_may_55 : decode cX8_may 55 = .ok (.invokevirtual 407, 3) := by decide +kernel
theorem dX8_may_58 : decode cX8_may 58 = .ok (.iload 4, 2) := by decide +kernel
theorem dX8_may_60 : decode cX8_may 60 = .ok (.if_icmp .ne 7, 3) := by decide +kernel
theorem dX8_may_63 : decode cX8_may 63 = .ok (.iconst 1, 1) := by decide +kernel
theorem dX8_may_64 : decode cX8_may 64 = .ok (.goto 22, 3) := by decide +kernel
theorem dX8_may_67 : decode cX8_may 67 = .ok (.iconst 0, 1) := by decide +kernel
theorem dX8_may_68 : decode cX8_may 68 = .ok (.goto 18, 3) := by decide +kernel
theorem dX8_may_71 : decode cX8_may 71 = .ok (.aload_n 0, 1) := by decide +kernel
theorem dX8_may_72 : decode cX8_may 72 = .ok (.iload_n 1, 1) := by decide +kernel
theorem dX8_may_73 : decode cX8_may 73 = .ok (.iload 4, 2) := by decide +kernel
theorem dX8_may_75 : decode cX8_may 75 = .ok (.invokevirtual 345, 3) := by decide +kernel
theorem dX8_may_78 : decode cX8_may 78 = .ok (.ifCond .ne 7, 3) := by decide +kernel
theorem dX8_may_81 : decode cX8_may 81 = .ok (.iconst 1, 1) := by decide +kernel
theorem dX8_may_82 : decode cX8_may 82 = .ok (.goto 4, 3) := by decide +kernel
theorem dX8_may_85 : decode cX8_may 85 = .ok (.iconst 0, 1) := by decide +kernel
theorem dX8_may_86 : decode cX8_may 86 = .ok (.istore 5, 2) := by decide +kernel
theorem dX8_may_88 : decode cX8_may 88 = .ok (.iload_n 3, 1) := by decide +kernel
theorem dX8_may_89 : decode cX8_may 89 = .ok (.iload 5, 2) := by decide +kernel
theorem dX8_may_91 : decode cX8_may 91 = .ok (.ifCond .eq 10, 3) := by decide +kernel
theorem dX8_may_94 : decode cX8_may 94 = .ok (.iconst 1, 1) := by decide +kernel
theorem dX8_may_95 : decode cX8_may 95 = .ok (.iload 4, 2) := by decide +kernel
theorem dX8_may_97 : decode cX8_may 97 = .ok (.ishl, 1) := by decide +kernel
theorem dX8_may_98 : decode cX8_may 98 = .ok (.goto 4, 3) := by decide +kernel
theorem dX8_may_101 : decode cX8_may 101 = .ok (.iconst 0, 1) := by decide +kernel
theorem dX8_may_102 : decode cX8_may 102 = .ok (.ior, 1) := by decide +kernel
theorem dX8_may_103 : decode cX8_may 103 = .ok (.istore_n 3, 1) := by decide +kernel
theorem dX8_may_104 : decode cX8_may 104 = .ok (.iinc 4 1, 3) := by decide +kernel
theorem dX8_may_107 : decode cX8_may 107 = .ok (.goto (-68), 3) := by decide +kernel
theorem dX8_may_110 : decode cX8_may 110 = .ok (.iload_n 3, 1) := by decide +kernel
theorem dX8_may_111 : decode cX8_may 111 = .ok (.ireturn, 1) := by decide +kernel
theorem dX8_money_0 : decode cX8_money 0 = .ok (.aload_n 0, 1) := by decide +kernel
theorem dX8_money_1 : decode cX8_money 1 = .ok (.iconst 0, 1) := by decide +kernel
theorem dX8_money_2 : decode cX8_money 2 = .ok (.putfield 112, 3) := by decide +kernel
theorem dX8_money_5 : decode cX8_money 5 = .ok (.iload_n 1, 1) := by decide +kernel
theorem dX8_money_6 : decode cX8_money 6 = .ok (.ifCond .lt 8, 3) := by decide +kernel
theorem dX8_money_9 : decode cX8_money 9 = .ok (.iload_n 1, 1) := by decide +kernel
theorem dX8_money_10 : decode cX8_money 10 = .ok (.iconst 4, 1) := by decide +kernel
theorem dX8_money_11 : decode cX8_money 11 = .ok (.if_icmp .le 5, 3) := by decide +kernel
theorem dX8_money_14 : decode cX8_money 14 = .ok (.iconst (-1), 1) := by decide +kernel
theorem dX8_money_15 : decode cX8_money 15 = .ok (.ireturn, 1) := by decide +kernel
theorem dX8_money_16 : decode cX8_money 16 = .ok (.iload_n 1, 1) := by decide +kernel
theorem dX8_money_17 : decode cX8_money 17 = .ok (.iconst 4, 1) := by decide +kernel
theorem dX8_money_18 : decode cX8_money 18 = .ok (.if_icmp .ne 8, 3) := by decide +kernel
theorem dX8_money_21 : decode cX8_money 21 = .ok (.aload_n 0, 1) := by decide +kernel
theorem dX8_money_22 : decode cX8_money 22 = .ok (.invokevirtual 425, 3) := by decide +kernel
theorem dX8_money_25 : decode cX8_money 25 = .ok (.ireturn, 1) := by decide +kernel
theorem dX8_money_26 : decode cX8_money 26 = .ok (.iconst 0, 1) := by decide +kernel
theorem dX8_money_27 : decode cX8_money 27 = .ok (.istore_n 2, 1) := by decide +kernel
theorem dX8_money_28 : decode cX8_money 28 = .ok (.iconst 0, 1) := by decide +kernel
theorem dX8_money_29 : decode cX8_money 29 = .ok (.istore_n 3, 1) := by decide +kernel
theorem dX8_money_30 : decode cX8_money 30 = .ok (.iload_n 3, 1) := by decide +kernel
theorem dX8_money_31 : decode cX8_money 31 = .ok (.aload_n 0, 1) := by decide +kernel
theorem dX8_money_32 : decode cX8_money 32 = .ok (.getfield 192, 3) := by decide +kernel
theorem dX8_money_35 : decode cX8_money 35 = .ok (.if_icmp .ge 82, 3) := by decide +kernel
theorem dX8_money_38 : decode cX8_money 38 = .ok (.iload_n 1, 1) := by decide +kernel
theorem dX8_money_39 : decode cX8_money 39 = .ok (.ifCond .ne 17, 3) := by decide +kernel
theorem dX8_money_42 : decode cX8_money 42 = .ok (.iload_n 2, 1) := by decide +kernel
theorem dX8_money_43 : decode cX8_money 43 = .ok (.aload_n 0, 1) := by decide +kernel
theorem dX8_money_44 : decode cX8_money 44 = .ok (.getfield 25, 3) := by decide +kernel
theorem dX8_money_47 : decode cX8_money 47 = .ok (.iconst 4, 1) := by decide +kernel
theorem dX8_money_48 : decode cX8_money 48 = .ok (.iload_n 3, 1) := by decide +kernel
theorem dX8_money_49 : decode cX8_money 49 = .ok (.imul, 1) := by decide +kernel
theorem dX8_money_50 : decode cX8_money 50 = .ok (.iaload, 1) := by decide +kernel
theorem dX8_money_51 : decode cX8_money 51 = .ok (.iadd, 1) := by decide +kernel
theorem dX8_money_52 : decode cX8_money 52 = .ok (.istore_n 2, 1) := by decide +kernel
theorem dX8_money_53 : decode cX8_money 53 = .ok (.goto 58, 3) := by decide +kernel
theorem dX8_money_56 : decode cX8_money 56 = .ok (.iload_n 1, 1) := by decide +kernel
theorem dX8_money_57 : decode cX8_money 57 = .ok (.iconst 1, 1) := by decide +kernel
theorem dX8_money_58 : decode cX8_money 58 = .ok (.if_icmp .ne 23, 3) := by decide +kernel
theorem dX8_money_61 : decode cX8_money 61 = .ok (.iload_n 2, 1) := by decide +kernel
theorem dX8_money_62 : decode cX8_money 62 = .ok (.aload_n 0, 1) := by decide +kernel
theorem dX8_money_63 : decode cX8_money 63 = .ok (.getfield 25, 3) := by decide +kernel
theorem dX8_money_66 : decode cX8_money 66 = .ok (.iconst 4, 1) := by decide +kernel
theorem dX8_money_67 : decode cX8_money 67 = .ok (.iload_n 3, 1) := by decide +kernel
theorem dX8_money_68 : decode cX8_money 68 = .ok (.imul, 1) := by decide +kernel
theorem dX8_money_69 : decode cX8_money 69 = .ok (.iaload, 1) := by decide +kernel
theorem dX8_money_70 : decode cX8_money 70 = .ok (.aload_n 0, 1) := by decide +kernel
theorem dX8_money_71 : decode cX8_money 71 = .ok (.iload_n 3, 1) := by decide +kernel
theorem dX8_money_72 : decode cX8_money 72 = .ok (.invokevirtual 416, 3) := by decide +kernel
theorem dX8_money_75 : decode cX8_money 75 = .ok (.isub, 1) := by decide +kernel
theorem dX8_money_76 : decode cX8_money 76 = .ok (.iadd, 1) := by decide +kernel
theorem dX8_money_77 : decode cX8_money 77 = .ok (.istore_n 2, 1) := by decide +kernel
theorem dX8_money_78 : decode cX8_money 78 = .ok (.goto 33, 3) := by decide +kernel
theorem dX8_money_81 : decode cX8_money 81 = .ok (.iload_n 2, 1) := by decide +kernel
theorem dX8_money_82 : decode cX8_money 82 = .ok (.aload_n 0, 1) := by decide +kernel
theorem dX8_money_83 : decode cX8_money 83 = .ok (.iload_n 3, 1) := by decide +kernel
theorem dX8_money_84 : decode cX8_money 84 = .ok (.invokevirtual 404, 3) := by decide +kernel
theorem dX8_money_87 : decode cX8_money 87 = .ok (.iload_n 1, 1) := by decide +kernel
theorem dX8_money_88 : decode cX8_money 88 = .ok (.iconst 3, 1) := by decide +kernel
theorem dX8_money_89 : decode cX8_money 89 = .ok (.if_icmp .ne 7, 3) := by decide +kernel
theorem dX8_money_92 : decode cX8_money 92 = .ok (.iconst 1, 1) := by decide +kernel
theorem dX8_money_93 : decode cX8_money 93 = .ok (.goto 4, 3) := by decide +kernel
theorem dX8_money_96 : decode cX8_money 96 = .ok (.iconst 0, 1) := by decide +kernel
theorem dX8_money_97 : decode cX8_money 97 = .ok (.if_icmp .ne 11, 3) := by decide +kernel
theorem dX8_money_100 : decode cX8_money 100 = .ok (.aload_n 0, 1) := by decide +kernel
theorem dX8_money_101 : decode cX8_money 101 = .ok (.iload_n 3, 1) := by decide +kernel
theorem dX8_money_102 : decode cX8_money 102 = .ok (.invokevirtual 416, 3) := by decide +kernel
theorem dX8_money_105 : decode cX8_money 105 = .ok (.goto 4, 3) := by decide +kernel
theorem dX8_money_108 : decode cX8_money 108 = .ok (.iconst 0, 1) := by decide +kernel
theorem dX8_money_109 : decode cX8_money 109 = .ok (.iadd, 1) := by decide +kernel
theorem dX8_money_110 : decode cX8_money 110 = .ok (.istore_n 2, 1) := by decide +kernel
theorem dX8_money_111 : decode cX8_money 111 = .ok (.iinc 3 1, 3) := by decide +kernel
theorem dX8_money_114 : decode cX8_money 114 = .ok (.goto (-84), 3) := by decide +kernel
theorem dX8_money_117 : decode cX8_money 117 = .ok (.iload_n 2, 1) := by decide +kernel
theorem dX8_money_118 : decode cX8_money 118 = .ok (.ireturn, 1) := by decide +kernel
theorem dX8_count_0 : decode cX8_count 0 = .ok (.aload_n 0, 1) := by decide +kernel
theorem dX8_count_1 : decode cX8_count 1 = .ok (.iconst 0, 1) := by decide +kernel
theorem dX8_count_2 : decode cX8_count 2 = .ok (.putfield 112, 3) := by decide +kernel
theorem dX8_count_5 : decode cX8_count 5 = .ok (.iload_n 1, 1) := by decide +kernel
theorem dX8_count_6 : decode cX8_count 6 = .ok (.tableswitch 113 0 10 #[58, 63, 68, 73, 78, 83, 88, 93, 98, 103, 108], 58) := by decide +kernel
theorem dX8_count_64 : decode cX8_count 64 = .ok (.aload_n 0, 1) := by decide +kernel
theorem dX8_count_65 : decode cX8_count 65 = .ok (.getfield 270, 3) := by decide +kernel
theorem dX8_count_68 : decode cX8_count 68 = .ok (.ireturn, 1) := by decide +kernel
theorem dX8_count_69 : decode cX8_count 69 = .ok (.aload_n 0, 1) := by decide +kernel
theorem dX8_count_70 : decode cX8_count 70 = .ok (.getfield 182, 3) := by decide +kernel
theorem dX8_count_73 : decode cX8_count 73 = .ok (.ireturn, 1) := by decide +kernel
theorem dX8_count_74 : decode cX8_count 74 = .ok (.aload_n 0, 1) := by decide +kernel
theorem dX8_count_75 : decode cX8_count 75 = .ok (.getfield 189, 3) := by decide +kernel
theorem dX8_count_78 : decode cX8_count 78 = .ok (.ireturn, 1) := by decide +kernel
theorem dX8_count_79 : decode cX8_count 79 = .ok (.aload_n 0, 1) := by decide +kernel
theorem dX8_count_80 : decode cX8_count 80 = .ok (.getfield 199, 3) := by decide +kernel
theorem dX8_count_83 : decode cX8_count 83 = .ok (.ireturn, 1) := by decide +kernel
theorem dX8_count_84 : decode cX8_count 84 = .ok (.aload_n 0, 1) := by decide +kernel
theorem dX8_count_85 : decode cX8_count 85 = .ok (.getfield 220, 3) := by decide +kernel
theorem dX8_count_88 : decode cX8_count 88 = .ok (.ireturn, 1) := by decide +kernel
theorem dX8_count_89 : decode cX8_count 89 = .ok (.aload_n 0, 1) := by decide +kernel
theorem dX8_count_90 : decode cX8_count 90 = .ok (.getfield 223, 3) := by decide +kernel
theorem dX8_count_93 : decode cX8_count 93 = .ok (.ireturn, 1) := by decide +kernel
theorem dX8_count_94 : decode cX8_count 94 = .ok (.aload_n 0, 1) := by decide +kernel
theorem dX8_count_95 : decode cX8_count 95 = .ok (.getfield 230, 3) := by decide +kernel
theorem dX8_count_98 : decode cX8_count 98 = .ok (.ireturn, 1) := by decide +kernel
theorem dX8_count_99 : decode cX8_count 99 = .ok (.aload_n 0, 1) := by decide +kernel
theorem dX8_count_100 : decode cX8_count 100 = .ok (.getfield 106, 3) := by decide +kernel
theorem dX8_count_103 : decode cX8_count 103 = .ok (.ireturn, 1) := by decide +kernel
theorem dX8_count_104 : decode cX8_count 104 = .ok (.aload_n 0, 1) := by decide +kernel
theorem dX8_count_105 : decode cX8_count 105 = .ok (.getfield 192, 3) := by decide +kernel
theorem dX8_count_108 : decode cX8_count 108 = .ok (.ireturn, 1) := by decide +kernel
theorem dX8_count_109 : decode cX8_count 109 = .ok (.aload_n 0, 1) := by decide +kernel
theorem dX8_count_110 : decode cX8_count 110 = .ok (.getfield 287, 3) := by decide +kernel
theorem dX8_count_113 : decode cX8_count 113 = .ok (.ireturn, 1) := by decide +kernel
theorem dX8_count_114 : decode cX8_count 114 = .ok (.aload_n 0, 1) := by decide +kernel
theorem dX8_count_115 : decode cX8_count 115 = .ok (.getfield 115, 3) := by decide +kernel
theorem dX8_count_118 : decode cX8_count 118 = .ok (.ireturn, 1) := by decide +kernel
theorem dX8_count_119 : decode cX8_count 119 = .ok (.iconst (-1), 1) := by decide +kernel
theorem dX8_count_120 : decode cX8_count 120 = .ok (.ireturn, 1) := by decide +kernel
theorem dJx29ce0_ordinal_8abf5_0 : decode cJx29ce0_ordinal_8abf5 0 = .ok (.aload_n 0, 1) := by decide +kernel
theorem dJx29ce0_ordinal_8abf5_1 : decode cJx29ce0_ordinal_8abf5 1 = .ok (.getfield 7, 3) := by decide +kernel
theorem dJx29ce0_ordinal_8abf5_4 : decode cJx29ce0_ordinal_8abf5 4 = .ok (.ireturn, 1) := by decide +kernel
theorem dJ9_abs_0f7a4_0 : decode cJ9_abs_0f7a4 0 = .ok (.iload_n 0, 1) := by decide +kernel
theorem dJ9_abs_0f7a4_1 : decode cJ9_abs_0f7a4 1 = .ok (.ifCond .ge 8, 3) := by decide +kernel
theorem dJ9_abs_0f7a4_4 : decode cJ9_abs_0f7a4 4 = .ok (.iload_n 0, 1) := by decide +kernel
theorem dJ9_abs_0f7a4_5 : decode cJ9_abs_0f7a4 5 = .ok (.ineg, 1) := by decide +kernel
theorem dJ9_abs_0f7a4_6 : decode cJ9_abs_0f7a4 6 = .ok (.goto 4, 3) := by decide +kernel
theorem dJ9_abs_0f7a4_9 : decode cJ9_abs_0f7a4 9 = .ok (.iload_n 0, 1) := by decide +kernel
theorem dJ9_abs_0f7a4_10 : decode cJ9_abs_0f7a4 10 = .ok (.ireturn, 1) := by decide +kernel
theorem dJ9_min_7cf53_0 : decode cJ9_min_7cf53 0 = .ok (.iload_n 0, 1) := by decide +kernel
theorem dJ9_min_7cf53_1 : decode cJ9_min_7cf53 1 = .ok (.iload_n 1, 1) := by decide +kernel
theorem dJ9_min_7cf53_2 : decode cJ9_min_7cf53 2 = .ok (.if_icmp .gt 7, 3) := by decide +kernel
theorem dJ9_min_7cf53_5 : decode cJ9_min_7cf53 5 = .ok (.iload_n 0, 1) := by decide +kernel
theorem dJ9_min_7cf53_6 : decode cJ9_min_7cf53 6 = .ok (.goto 4, 3) := by decide +kernel
theorem dJ9_min_7cf53_9 : decode cJ9_min_7cf53 9 = .ok (.iload_n 1, 1) := by decide +kernel
theorem dJ9_min_7cf53_10 : decode cJ9_min_7cf53 10 = .ok (.ireturn, 1) := by decide +kernel
theorem dJ0_length_8abf5_0 : decode cJ0_length_8abf5 0 = .ok (.aload_n 0, 1) := by decide +kernel
theorem dJ0_length_8abf5_1 : decode cJ0_length_8abf5 1 = .ok (.getfield 9, 3) := by decide +kernel
theorem dJ0_length_8abf5_4 : decode cJ0_length_8abf5 4 = .ok (.arraylength, 1) := by decide +kernel
theorem dJ0_length_8abf5_5 : decode cJ0_length_8abf5 5 = .ok (.aload_n 0, 1) := by decide +kernel
theorem dJ0_length_8abf5_6 : decode cJ0_length_8abf5 6 = .ok (.invokevirtual 335, 3) := by decide +kernel
theorem dJ0_length_8abf5_9 : decode cJ0_length_8abf5 9 = .ok (.ishr, 1) := by decide +kernel
theorem dJ0_length_8abf5_10 : decode cJ0_length_8abf5 10 = .ok (.ireturn, 1) := by decide +kernel
theorem dJ0_charAt_5068e_0 : decode cJ0_charAt_5068e 0 = .ok (.aload_n 0, 1) := by decide +kernel
theorem dJ0_charAt_5068e_1 : decode cJ0_charAt_5068e 1 = .ok (.invokevirtual 492, 3) := by decide +kernel
theorem dJ0_charAt_5068e_4 : decode cJ0_charAt_5068e 4 = .ok (.ifCond .eq 12, 3) := by decide +kernel
theorem dJ0_charAt_5068e_7 : decode cJ0_charAt_5068e 7 = .ok (.aload_n 0, 1) := by decide +kernel
theorem dJ0_charAt_5068e_8 : decode cJ0_charAt_5068e 8 = .ok (.getfield 9, 3) := by decide +kernel
theorem dJ0_charAt_5068e_11 : decode cJ0_charAt_5068e 11 = .ok (.iload_n 1, 1) := by decide +kernel
theorem dJ0_charAt_5068e_12 : decode cJ0_charAt_5068e 12 = .ok (.invokestatic 495, 3) := by decide +kernel
theorem dJ0_charAt_5068e_15 : decode cJ0_charAt_5068e 15 = .ok (.ireturn, 1) := by decide +kernel
theorem dJ0_charAt_5068e_16 : decode cJ0_charAt_5068e 16 = .ok (.aload_n 0, 1) := by decide +kernel
theorem dJ0_charAt_5068e_17 : decode cJ0_charAt_5068e 17 = .ok (.getfield 9, 3) := by decide +kernel
theorem dJ0_charAt_5068e_20 : decode cJ0_charAt_5068e 20 = .ok (.iload_n 1, 1) := by decide +kernel
theorem dJ0_charAt_5068e_21 : decode cJ0_charAt_5068e 21 = .ok (.invokestatic 498, 3) := by decide +kernel
theorem dJ0_charAt_5068e_24 : decode cJ0_charAt_5068e 24 = .ok (.ireturn, 1) := by decide +kernel
theorem dJ0_coder_7d493_0 : decode cJ0_coder_7d493 0 = .ok (.getstatic 38, 3) := by decide +kernel
theorem dJ0_coder_7d493_3 : decode cJ0_coder_7d493 3 = .ok (.ifCond .eq 10, 3) := by decide +kernel
theorem dJ0_coder_7d493_6 : decode cJ0_coder_7d493 6 = .ok (.aload_n 0, 1) := by decide +kernel
theorem dJ0_coder_7d493_7 : decode cJ0_coder_7d493 7 = .ok (.getfield 15, 3) := by decide +kernel
theorem dJ0_coder_7d493_10 : decode cJ0_coder_7d493 10 = .ok (.goto 4, 3) := by decide +kernel
theorem dJ0_coder_7d493_13 : decode cJ0_coder_7d493 13 = .ok (.iconst 1, 1) := by decide +kernel
theorem dJ0_coder_7d493_14 : decode cJ0_coder_7d493 14 = .ok (.ireturn, 1) := by decide +kernel
theorem dJ0_isLatin1_aae02_0 : decode cJ0_isLatin1_aae02 0 = .ok (.getstatic 38, 3) := by decide +kernel
theorem dJ0_isLatin1_aae02_3 : decode cJ0_isLatin1_aae02 3 = .ok (.ifCond .eq 14, 3) := by decide +kernel
theorem dJ0_isLatin1_aae02_6 : decode cJ0_isLatin1_aae02 6 = .ok (.aload_n 0, 1) := by decide +kernel
theorem dJ0_isLatin1_aae02_7 : decode cJ0_isLatin1_aae02 7 = .ok (.getfield 15, 3) := by decide +kernel
theorem dJ0_isLatin1_aae02_10 : decode cJ0_isLatin1_aae02 10 = .ok (.ifCond .ne 7, 3) := by decide +kernel
theorem dJ0_isLatin1_aae02_13 : decode cJ0_isLatin1_aae02 13 = .ok (.iconst 1, 1) := by decide +kernel
theorem dJ0_isLatin1_aae02_14 : decode cJ0_isLatin1_aae02 14 = .ok (.goto 4, 3) := by decide +kernel
theorem dJ0_isLatin1_aae02_17 : decode cJ0_isLatin1_aae02 17 = .ok (.iconst 0, 1) := by decide +kernel
theorem dJ0_isLatin1_aae02_18 : decode cJ0_isLatin1_aae02 18 = .ok (.ireturn, 1) := by decide +kernel
theorem dJ0_checkIndex_df160_0 : decode cJ0_checkIndex_df160 0 = .ok (.iload_n 0, 1) := by decide +kernel
theorem dJ0_checkIndex_df160_1 : decode cJ0_checkIndex_df160 1 = .ok (.iload_n 1, 1) := by decide +kernel
theorem dJ0_checkIndex_df160_2 : decode cJ0_checkIndex_df160 2 = .ok (.getstatic 1053, 3) := by decide +kernel
theorem dJ0_checkIndex_df160_5 : decode cJ0_checkIndex_df160 5 = .ok (.invokestatic 1059, 3) := by decide +kernel
theorem dJ0_checkIndex_df160_8 : decode cJ0_checkIndex_df160 8 = .ok (.pop, 1) := by decide +kernel
theorem dJ0_checkIndex_df160_9 : decode cJ0_checkIndex_df160 9 = .ok (.return_, 1) := by decide +kernel
theorem dJ1_charAt_3b067_0 : decode cJ1_charAt_3b067 0 = .ok (.iload_n 1, 1) := by decide +kernel
theorem dJ1_charAt_3b067_1 : decode cJ1_charAt_3b067 1 = .ok (.aload_n 0, 1) := by decide +kernel
theorem dJ1_charAt_3b067_2 : decode cJ1_charAt_3b067 2 = .ok (.arraylength, 1) := by decide +kernel
theorem dJ1_charAt_3b067_3 : decode cJ1_charAt_3b067 3 = .ok (.invokestatic 9, 3) := by decide +kernel
theorem dJ1_charAt_3b067_6 : decode cJ1_charAt_3b067 6 = .ok (.aload_n 0, 1) := by decide +kernel
theorem dJ1_charAt_3b067_7 : decode cJ1_charAt_3b067 7 = .ok (.iload_n 1, 1) := by decide +kernel
theorem dJ1_charAt_3b067_8 : decode cJ1_charAt_3b067 8 = .ok (.baload, 1) := by decide +kernel
theorem dJ1_charAt_3b067_9 : decode cJ1_charAt_3b067 9 = .ok (.sipush 255, 3) := by decide +kernel
theorem dJ1_charAt_3b067_12 : decode cJ1_charAt_3b067 12 = .ok (.iand, 1) := by decide +kernel
theorem dJ1_charAt_3b067_13 : decode cJ1_charAt_3b067 13 = .ok (.i2c, 1) := by decide +kernel
theorem dJ1_charAt_3b067_14 : decode cJ1_charAt_3b067 14 = .ok (.ireturn, 1) := by decide +kernel
theorem dJ2_getChar_3b067_0 : decode cJ2_getChar_3b067 0 = .ok (.getstatic 44, 3) := by decide +kernel
theorem dJ2_getChar_3b067_3 : decode cJ2_getChar_3b067 3 = .ok (.ifCond .ne 25, 3) := by decide +kernel
theorem dJ2_getChar_3b067_6 : decode cJ2_getChar_3b067 6 = .ok (.iload_n 1, 1) := by decide +kernel
theorem dJ2_getChar_3b067_7 : decode cJ2_getChar_3b067 7 = .ok (.ifCond .lt 11, 3) := by decide +kernel
theorem dJ2_getChar_3b067_10 : decode cJ2_getChar_3b067 10 = .ok (.iload_n 1, 1) := by decide +kernel
theorem dJ2_getChar_3b067_11 : decode cJ2_getChar_3b067 11 = .ok (.aload_n 0, 1) := by decide +kernel
theorem dJ2_getChar_3b067_12 : decode cJ2_getChar_3b067 12 = .ok (.invokestatic 48, 3) := by decide +kernel
theorem dJ2_getChar_3b067_15 : decode cJ2_getChar_3b067 15 = .ok (.if_icmp .lt 13, 3) := by decide +kernel
theorem dJ2_getChar_3b067_18 : decode cJ2_getChar_3b067 18 = .ok (.new 52, 3) := by decide +kernel
theorem dJ2_getChar_3b067_21 : decode cJ2_getChar_3b067 21 = .ok (.dup, 1) := by decide +kernel
theorem dJ2_getChar_3b067_22 : decode cJ2_getChar_3b067 22 = .ok (.ldc 54, 2) := by decide +kernel
theorem dJ2_getChar_3b067_24 : decode cJ2_getChar_3b067 24 = .ok (.invokespecial 56, 3) := by decide +kernel
theorem dJ2_getChar_3b067_27 : decode cJ2_getChar_3b067 27 = .ok (.athrow, 1) := by decide +kernel
theorem dJ2_getChar_3b067_28 : decode cJ2_getChar_3b067 28 = .ok (.iload_n 1, 1) := by decide +kernel
theorem dJ2_getChar_3b067_29 : decode cJ2_getChar_3b067 29 = .ok (.iconst 1, 1) := by decide +kernel
theorem dJ2_getChar_3b067_30 : decode cJ2_getChar_3b067 30 = .ok (.ishl, 1) := by decide +kernel
theorem dJ2_getChar_3b067_31 : decode cJ2_getChar_3b067 31 = .ok (.istore_n 1, 1) := by decide +kernel
theorem dJ2_getChar_3b067_32 : decode cJ2_getChar_3b067 32 = .ok (.aload_n 0, 1) := by decide +kernel
theorem dJ2_getChar_3b067_33 : decode cJ2_getChar_3b067 33 = .ok (.iload_n 1, 1) := by decide +kernel
theorem dJ2_getChar_3b067_34 : decode cJ2_getChar_3b067 34 = .ok (.iinc 1 1, 3) := by decide +kernel
theorem dJ2_getChar_3b067_37 : decode cJ2_getChar_3b067 37 = .ok (.baload, 1) := by decide +kernel
theorem dJ2_getChar_3b067_38 : decode cJ2_getChar_3b067 38 = .ok (.sipush 255, 3) := by decide +kernel
theorem dJ2_getChar_3b067_41 : decode cJ2_getChar_3b067 41 = .ok (.iand, 1) := by decide +kernel
theorem dJ2_getChar_3b067_42 : decode cJ2_getChar_3b067 42 = .ok (.getstatic 59, 3) := by decide +kernel
theorem dJ2_getChar_3b067_45 : decode cJ2_getChar_3b067 45 = .ok (.ishl, 1) := by decide +kernel
theorem dJ2_getChar_3b067_46 : decode cJ2_getChar_3b067 46 = .ok (.aload_n 0, 1) := by decide +kernel
theorem dJ2_getChar_3b067_47 : decode cJ2_getChar_3b067 47 = .ok (.iload_n 1, 1) := by decide +kernel
theorem dJ2_getChar_3b067_48 : decode cJ2_getChar_3b067 48 = .ok (.baload, 1) := by decide +kernel
theorem dJ2_getChar_3b067_49 : decode cJ2_getChar_3b067 49 = .ok (.sipush 255, 3) := by decide +kernel
theorem dJ2_getChar_3b067_52 : decode cJ2_getChar_3b067 52 = .ok (.iand, 1) := by decide +kernel
theorem dJ2_getChar_3b067_53 : decode cJ2_getChar_3b067 53 = .ok (.getstatic 63, 3) := by decide +kernel
theorem dJ2_getChar_3b067_56 : decode cJ2_getChar_3b067 56 = .ok (.ishl, 1) := by decide +kernel
theorem dJ2_getChar_3b067_57 : decode cJ2_getChar_3b067 57 = .ok (.ior, 1) := by decide +kernel
theorem dJ2_getChar_3b067_58 : decode cJ2_getChar_3b067 58 = .ok (.i2c, 1) := by decide +kernel
theorem dJ2_getChar_3b067_59 : decode cJ2_getChar_3b067 59 = .ok (.ireturn, 1) := by decide +kernel
theorem dJ2_length_9d52b_0 : decode cJ2_length_9d52b 0 = .ok (.aload_n 0, 1) := by decide +kernel
theorem dJ2_length_9d52b_1 : decode cJ2_length_9d52b 1 = .ok (.arraylength, 1) := by decide +kernel
theorem dJ2_length_9d52b_2 : decode cJ2_length_9d52b 2 = .ok (.iconst 1, 1) := by decide +kernel
theorem dJ2_length_9d52b_3 : decode cJ2_length_9d52b 3 = .ok (.ishr, 1) := by decide +kernel
theorem dJ2_length_9d52b_4 : decode cJ2_length_9d52b 4 = .ok (.ireturn, 1) := by decide +kernel
theorem dJ2_charAt_3b067_0 : decode cJ2_charAt_3b067 0 = .ok (.iload_n 1, 1) := by decide +kernel
theorem dJ2_charAt_3b067_1 : decode cJ2_charAt_3b067 1 = .ok (.aload_n 0, 1) := by decide +kernel
theorem dJ2_charAt_3b067_2 : decode cJ2_charAt_3b067 2 = .ok (.invokestatic 67, 3) := by decide +kernel
theorem dJ2_charAt_3b067_5 : decode cJ2_charAt_3b067 5 = .ok (.aload_n 0, 1) := by decide +kernel
theorem dJ2_charAt_3b067_6 : decode cJ2_charAt_3b067 6 = .ok (.iload_n 1, 1) := by decide +kernel
theorem dJ2_charAt_3b067_7 : decode cJ2_charAt_3b067 7 = .ok (.invokestatic 71, 3) := by decide +kernel
theorem dJ2_charAt_3b067_10 : decode cJ2_charAt_3b067 10 = .ok (.ireturn, 1) := by decide +kernel
theorem dJ2_checkIndex_2214a_0 : decode cJ2_checkIndex_2214a 0 = .ok (.iload_n 0, 1) := by decide +kernel
theorem dJ2_checkIndex_2214a_1 : decode cJ2_checkIndex_2214a 1 = .ok (.aload_n 1, 1) := by decide +kernel
theorem dJ2_checkIndex_2214a_2 : decode cJ2_checkIndex_2214a 2 = .ok (.invokestatic 48, 3) := by decide +kernel
theorem dJ2_checkIndex_2214a_5 : decode cJ2_checkIndex_2214a 5 = .ok (.invokestatic 414, 3) := by decide +kernel
theorem dJ2_checkIndex_2214a_8 : decode cJ2_checkIndex_2214a 8 = .ok (.return_, 1) := by decide +kernel
theorem dJ3_checkIndex_8e157_0 : decode cJ3_checkIndex_8e157 0 = .ok (.iload_n 0, 1) := by decide +kernel
theorem dJ3_checkIndex_8e157_1 : decode cJ3_checkIndex_8e157 1 = .ok (.ifCond .lt 8, 3) := by decide +kernel
theorem dJ3_checkIndex_8e157_4 : decode cJ3_checkIndex_8e157 4 = .ok (.iload_n 0, 1) := by decide +kernel
theorem dJ3_checkIndex_8e157_5 : decode cJ3_checkIndex_8e157 5 = .ok (.iload_n 1, 1) := by decide +kernel
theorem dJ3_checkIndex_8e157_6 : decode cJ3_checkIndex_8e157 6 = .ok (.if_icmp .lt 10, 3) := by decide +kernel
theorem dJ3_checkIndex_8e157_9 : decode cJ3_checkIndex_8e157 9 = .ok (.aload_n 2, 1) := by decide +kernel
theorem dJ3_checkIndex_8e157_10 : decode cJ3_checkIndex_8e157 10 = .ok (.iload_n 0, 1) := by decide +kernel
theorem dJ3_checkIndex_8e157_11 : decode cJ3_checkIndex_8e157 11 = .ok (.iload_n 1, 1) := by decide +kernel
theorem dJ3_checkIndex_8e157_12 : decode cJ3_checkIndex_8e157 12 = .ok (.invokestatic 95, 3) := by decide +kernel
theorem dJ3_checkIndex_8e157_15 : decode cJ3_checkIndex_8e157 15 = .ok (.athrow, 1) := by decide +kernel
theorem dJ3_checkIndex_8e157_16 : decode cJ3_checkIndex_8e157 16 = .ok (.iload_n 0, 1) := by decide +kernel
theorem dJ3_checkIndex_8e157_17 : decode cJ3_checkIndex_8e157 17 = .ok (.ireturn, 1) := by decide +kernel
theorem dL_proviso_0 : decode cL_proviso 0 = .ok (.aload_n 3, 1) := by decide +kernel
theorem dL_proviso_1 : decode cL_proviso 1 = .ok (.iconst 0, 1) := by decide +kernel
theorem dL_proviso_2 : decode cL_proviso 2 = .ok (.aload_n 0, 1) := by decide +kernel
theorem dL_proviso_3 : decode cL_proviso 3 = .ok (.iload_n 1, 1) := by decide +kernel
theorem dL_proviso_4 : decode cL_proviso 4 = .ok (.iload_n 2, 1) := by decide +kernel
theorem dL_proviso_5 : decode cL_proviso 5 = .ok (.invokevirtual 7, 3) := by decide +kernel
theorem dL_proviso_8 : decode cL_proviso 8 = .ok (.i2l, 1) := by decide +kernel
theorem dL_proviso_9 : decode cL_proviso 9 = .ok (.lastore, 1) := by decide +kernel
theorem dL_proviso_10 : decode cL_proviso 10 = .ok (.goto 11, 3) := by decide +kernel
theorem dL_proviso_13 : decode cL_proviso 13 = .ok (.astore 4, 2) := by decide +kernel
theorem dL_proviso_15 : decode cL_proviso 15 = .ok (.iconst 1, 1) := by decide +kernel
theorem dL_proviso_16 : decode cL_proviso 16 = .ok (.ireturn, 1) := by decide +kernel
theorem dL_proviso_17 : decode cL_proviso 17 = .ok (.astore 4, 2) := by decide +kernel
theorem dL_proviso_19 : decode cL_proviso 19 = .ok (.iconst 2, 1) := by decide +kernel
theorem dL_proviso_20 : decode cL_proviso 20 = .ok (.ireturn, 1) := by decide +kernel
theorem dL_proviso_21 : decode cL_proviso 21 = .ok (.iconst 0, 1) := by decide +kernel
theorem dL_proviso_22 : decode cL_proviso 22 = .ok (.ireturn, 1) := by decide +kernel
theorem dL_ticket_0 : decode cL_ticket 0 = .ok (.aload_n 3, 1) := by decide +kernel
theorem dL_ticket_1 : decode cL_ticket 1 = .ok (.iconst 0, 1) := by decide +kernel
theorem dL_ticket_2 : decode cL_ticket 2 = .ok (.aload_n 0, 1) := by decide +kernel
theorem dL_ticket_3 : decode cL_ticket 3 = .ok (.iload_n 1, 1) := by decide +kernel
theorem dL_ticket_4 : decode cL_ticket 4 = .ok (.iload_n 2, 1) := by decide +kernel
theorem dL_ticket_5 : decode cL_ticket 5 = .ok (.invokevirtual 17, 3) := by decide +kernel
theorem dL_ticket_8 : decode cL_ticket 8 = .ok (.i2l, 1) := by decide +kernel
theorem dL_ticket_9 : decode cL_ticket 9 = .ok (.lastore, 1) := by decide +kernel
theorem dL_ticket_10 : decode cL_ticket 10 = .ok (.goto 11, 3) := by decide +kernel
theorem dL_ticket_13 : decode cL_ticket 13 = .ok (.astore 4, 2) := by decide +kernel
theorem dL_ticket_15 : decode cL_ticket 15 = .ok (.iconst 1, 1) := by decide +kernel
theorem dL_ticket_16 : decode cL_ticket 16 = .ok (.ireturn, 1) := by decide +kernel
theorem dL_ticket_17 : decode cL_ticket 17 = .ok (.astore 4, 2) := by decide +kernel
theorem dL_ticket_19 : decode cL_ticket 19 = .ok (.iconst 2, 1) := by decide +kernel
theorem dL_ticket_20 : decode cL_ticket 20 = .ok (.ireturn, 1) := by decide +kernel
theorem dL_ticket_21 : decode cL_ticket 21 = .ok (.iconst 0, 1) := by decide +kernel
theorem dL_ticket_22 : decode cL_ticket 22 = .ok (.ireturn, 1) := by decide +kernel
theorem dL_law_0 : decode cL_law 0 = .ok (.new 8, 3) := by decide +kernel
theorem dL_law_3 : decode cL_law 3 = .ok (.dup, 1) := by decide +kernel
theorem dL_law_4 : decode cL_law 4 = .ok (.invokespecial 20, 3) := by decide +kernel
theorem dL_law_7 : decode cL_law 7 = .ok (.astore_n 1, 1) := by decide +kernel
theorem dL_law_8 : decode cL_law 8 = .ok (.new 21, 3) := by decide +kernel
theorem dL_law_11 : decode cL_law 11 = .ok (.dup, 1) := by decide +kernel
theorem dL_law_12 : decode cL_law 12 = .ok (.invokespecial 23, 3) := by decide +kernel
theorem dL_law_15 : decode cL_law 15 = .ok (.astore_n 2, 1) := by decide +kernel
theorem dL_law_16 : decode cL_law 16 = .ok (.iconst 1, 1) := by decide +kernel
theorem dL_law_17 : decode cL_law 17 = .ok (.newarray .long, 2) := by decide +kernel
theorem dL_law_19 : decode cL_law 19 = .ok (.astore_n 3, 1) := by decide +kernel
theorem dL_law_20 : decode cL_law 20 = .ok (.iconst 0, 1) := by decide +kernel
theorem dL_law_21 : decode cL_law 21 = .ok (.istore 4, 2) := by decide +kernel
theorem dL_law_23 : decode cL_law 23 = .ok (.iload 4, 2) := by decide +kernel
theorem dL_law_25 : decode cL_law 25 = .ok (.aload_n 0, 1) := by decide +kernel
theorem dL_law_26 : decode cL_law 26 = .ok (.arraylength, 1) := by decide +kernel
theorem dL_law_27 : decode cL_law 27 = .ok (.bipush 6, 2) := by decide +kernel
theorem dL_law_29 : decode cL_law 29 = .ok (.isub, 1) := by decide +kernel
theorem dL_law_30 : decode cL_law 30 = .ok (.if_icmp .gt 1544, 3) := by decide +kernel
theorem dL_law_33 : decode cL_law 33 = .ok (.aload_n 0, 1) := by decide +kernel
theorem dL_law_34 : decode cL_law 34 = .ok (.iload 4, 2) := by decide +kernel
theorem dL_law_36 : decode cL_law 36 = .ok (.iaload, 1) := by decide +kernel
theorem dL_law_37 : decode cL_law 37 = .ok (.bipush 63, 2) := by decide +kernel
theorem dL_law_39 : decode cL_law 39 = .ok (.iand, 1) := by decide +kernel
theorem dL_law_40 : decode cL_law 40 = .ok (.tableswitch 1528 0 37 #[168, 241, 266, 291, 328, 377, 402, 451, 519, 587, 636, 673, 710, 735, 760, 797, 834, 883, 908, 945, 982, 1031, 1056, 1069, 1082, 1119, 1144, 1169, 1182, 1219, 1268, 1317, 1354, 1379, 1404, 1441, 1478, 1503], 168) := by decide +kernel
theorem dL_law_208 : decode cL_law 208 = .ok (.aload_n 1, 1) := by decide +kernel
theorem dL_law_209 : decode cL_law 209 = .ok (.aload_n 0, 1) := by decide +kernel
theorem dL_law_210 : decode cL_law 210 = .ok (.iload 4, 2) := by decide +kernel
theorem dL_law_212 : decode cL_law 212 = .ok (.iconst 1, 1) := by decide +kernel
theorem dL_law_213 : decode cL_law 213 = .ok (.iadd, 1) := by decide +kernel
theorem dL_law_214 : decode cL_law 214 = .ok (.iaload, 1) := by decide +kernel
theorem dL_law_215 : decode cL_law 215 = .ok (.aload_n 0, 1) := by decide +kernel
theorem dL_law_216 : decode cL_law 216 = .ok (.iload 4, 2) := by decide +kernel
theorem dL_law_218 : decode cL_law 218 = .ok (.iconst 2, 1) := by decide +kernel
theorem dL_law_219 : decode cL_law 219 = .ok (.iadd, 1) := by decide +kernel
theorem dL_law_220 : decode cL_law 220 = .ok (.iaload, 1) := by decide +kernel
theorem dL_law_221 : decode cL_law 221 = .ok (.aload_n 0, 1) := by decide +kernel
theorem dL_law_222 : decode cL_law 222 = .ok (.iload 4, 2) := by decide +kernel
theorem dL_law_224 : decode cL_law 224 = .ok (.iconst 3, 1) := by decide +kernel
theorem dL_law_225 : decode cL_law 225 = .ok (.iadd, 1) := by decide +kernel
theorem dL_law_226 : decode cL_law 226 = .ok (.iaload, 1) := by decide +kernel
theorem dL_law_227 : decode cL_law 227 = .ok (.aload_n 0, 1) := by decide +kernel
theorem dL_law_228 : decode cL_law 228 = .ok (.iload 4, 2) := by decide +kernel
theorem dL_law_230 : decode cL_law 230 = .ok (.iconst 4, 1) := by decide +kernel
theorem dL_law_231 : decode cL_law 231 = .ok (.iadd, 1) := by decide +kernel
theorem dL_law_232 : decode cL_law 232 = .ok (.iaload, 1) := by decide +kernel
theorem dL_law_233 : decode cL_law 233 = .ok (.aload_n 0, 1) := by decide +kernel
theorem dL_law_234 : decode cL_law 234 = .ok (.iload 4, 2) := by decide +kernel
theorem dL_law_236 : decode cL_law 236 = .ok (.iconst 5, 1) := by decide +kernel
theorem dL_law_237 : decode cL_law 237 = .ok (.iadd, 1) := by decide +kernel
theorem dL_law_238 : decode cL_law 238 = .ok (.iaload, 1) := by decide +kernel
theorem dL_law_239 : decode cL_law 239 = .ok (.invokevirtual 24, 3) := by decide +kernel
theorem dL_law_242 : decode cL_law 242 = .ok (.aload_n 2, 1) := by decide +kernel
theorem dL_law_243 : decode cL_law 243 = .ok (.aload_n 0, 1) := by decide +kernel
theorem dL_law_244 : decode cL_law 244 = .ok (.iload 4, 2) := by decide +kernel
theorem dL_law_246 : decode cL_law 246 = .ok (.iconst 1, 1) := by decide +kernel
theorem dL_law_247 : decode cL_law 247 = .ok (.iadd, 1) := by decide +kernel
theorem dL_law_248 : decode cL_law 248 = .ok (.iaload, 1) := by decide +kernel
theorem dL_law_249 : decode cL_law 249 = .ok (.aload_n 0, 1) := by decide +kernel
theorem dL_law_250 : decode cL_law 250 = .ok (.iload 4, 2) := by decide +kernel
theorem dL_law_252 : decode cL_law 252 = .ok (.iconst 2, 1) := by decide +kernel
theorem dL_law_253 : decode cL_law 253 = .ok (.iadd, 1) := by decide +kernel
theorem dL_law_254 : decode cL_law 254 = .ok (.iaload, 1) := by decide +kernel
theorem dL_law_255 : decode cL_law 255 = .ok (.aload_n 0, 1) := by decide +kernel
theorem dL_law_256 : decode cL_law 256 = .ok (.iload 4, 2) := by decide +kernel
theorem dL_law_258 : decode cL_law 258 = .ok (.iconst 3, 1) := by decide +kernel
theorem dL_law_259 : decode cL_law 259 = .ok (.iadd, 1) := by decide +kernel
theorem dL_law_260 : decode cL_law 260 = .ok (.iaload, 1) := by decide +kernel
theorem dL_law_261 : decode cL_law 261 = .ok (.aload_n 0, 1) := by decide +kernel
theorem dL_law_262 : decode cL_law 262 = .ok (.iload 4, 2) := by decide +kernel
theorem dL_law_264 : decode cL_law 264 = .ok (.iconst 4, 1) := by decide +kernel
theorem dL_law_265 : decode cL_law 265 = .ok (.iadd, 1) := by decide +kernel
theorem dL_law_266 : decode cL_law 266 = .ok (.iaload, 1) := by decide +kernel
theorem dL_law_267 : decode cL_law 267 = .ok (.aload_n 0, 1) := by decide +kernel
theorem dL_law_268 : decode cL_law 268 = .ok (.iload 4, 2) := by decide +kernel
theorem dL_law_270 : decode cL_law 270 = .ok (.iconst 5, 1) := by decide +kernel
theorem dL_law_271 : decode cL_law 271 = .ok (.iadd, 1) := by decide +kernel
theorem dL_law_272 : decode cL_law 272 = .ok (.iaload, 1) := by decide +kernel
theorem dL_law_273 : decode cL_law 273 = .ok (.invokevirtual 28, 3) := by decide +kernel
theorem dL_law_276 : decode cL_law 276 = .ok (.if_icmp .eq 1292, 3) := by decide +kernel
theorem dL_law_279 : decode cL_law 279 = .ok (.iconst 0, 1) := by decide +kernel
theorem dL_law_280 : decode cL_law 280 = .ok (.ireturn, 1) := by decide +kernel
theorem dL_law_281 : decode cL_law 281 = .ok (.aload_n 1, 1) := by decide +kernel
theorem dL_law_282 : decode cL_law 282 = .ok (.aload_n 0, 1) := by decide +kernel
theorem dL_law_283 : decode cL_law 283 = .ok (.iload 4, 2) := by decide +kernel
theorem dL_law_285 : decode cL_law 285 = .ok (.iconst 1, 1) := by decide +kernel
theorem dL_law_286 : decode cL_law 286 = .ok (.iadd, 1) := by decide +kernel
theorem dL_law_287 : decode cL_law 287 = .ok (.iaload, 1) := by decide +kernel
theorem dL_law_288 : decode cL_law 288 = .ok (.invokevirtual 29, 3) := by decide +kernel
theorem dL_law_291 : decode cL_law 291 = .ok (.aload_n 2, 1) := by decide +kernel
theorem dL_law_292 : decode cL_law 292 = .ok (.aload_n 0, 1) := by decide +kernel
theorem dL_law_293 : decode cL_law 293 = .ok (.iload 4, 2) := by decide +kernel
theorem dL_law_295 : decode cL_law 295 = .ok (.iconst 1, 1) := by decide +kernel
theorem dL_law_296 : decode cL_law 296 = .ok (.iadd, 1) := by decide +kernel
theorem dL_law_297 : decode cL_law 297 = .ok (.iaload, 1) := by decide +kernel
theorem dL_law_298 : decode cL_law 298 = .ok (.invokevirtual 33, 3) := by decide +kernel
theorem dL_law_301 : decode cL_law 301 = .ok (.if_icmp .eq 1267, 3) := by decide +kernel
theorem dL_law_304 : decode cL_law 304 = .ok (.iconst 0, 1) := by decide +kernel
theorem dL_law_305 : decode cL_law 305 = .ok (.ireturn, 1) := by decide +kernel
theorem dL_law_306 : decode cL_law 306 = .ok (.aload_n 1, 1) := by decide +kernel
theorem dL_law_307 : decode cL_law 307 = .ok (.aload_n 0, 1) := by decide +kernel
theorem dL_law_308 : decode cL_law 308 = .ok (.iload 4, 2) := by decide +kernel
theorem dL_law_310 : decode cL_law 310 = .ok (.iconst 1, 1) := by decide +kernel
theorem dL_law_311 : decode cL_law 311 = .ok (.iadd, 1) := by decide +kernel
theorem dL_law_312 : decode cL_law 312 = .ok (.iaload, 1) := by decide +kernel
theorem dL_law_313 : decode cL_law 313 = .ok (.invokevirtual 34, 3) := by decide +kernel
theorem dL_law_316 : decode cL_law 316 = .ok (.aload_n 2, 1) := by decide +kernel
theorem dL_law_317 : decode cL_law 317 = .ok (.aload_n 0, 1) := by decide +kernel
theorem dL_law_318 : decode cL_law 318 = .ok (.iload 4, 2) := by decide +kernel
theorem dL_law_320 : decode cL_law 320 = .ok (.iconst 1, 1) := by decide +kernel
theorem dL_law_321 : decode cL_law 321 = .ok (.iadd, 1) := by decide +kernel
theorem dL_law_322 : decode cL_law 322 = .ok (.iaload, 1) := by decide +kernel
theorem dL_law_323 : decode cL_law 323 = .ok (.invokevirtual 37, 3) := by decide +kernel
theorem dL_law_326 : decode cL_law 326 = .ok (.if_icmp .eq 1242, 3) := by decide +kernel
theorem dL_law_329 : decode cL_law 329 = .ok (.iconst 0, 1) := by decide +kernel
theorem dL_law_330 : decode cL_law 330 = .ok (.ireturn, 1) := by decide +kernel
theorem dL_law_331 : decode cL_law 331 = .ok (.aload_n 1, 1) := by decide +kernel
theorem dL_law_332 : decode cL_law 332 = .ok (.aload_n 0, 1) := by decide +kernel
theorem dL_law_333 : decode cL_law 333 = .ok (.iload 4, 2) := by decide +kernel
theorem dL_law_335 : decode cL_law 335 = .ok (.iconst 1, 1) := by decide +kernel
theorem dL_law_336 : decode cL_law 336 = .ok (.iadd, 1) := by decide +kernel
theorem dL_law_337 : decode cL_law 337 = .ok (.iaload, 1) := by decide +kernel
theorem dL_law_338 : decode cL_law 338 = .ok (.aload_n 0, 1) := by decide +kernel
theorem dL_law_339 : decode cL_law 339 = .ok (.iload 4, 2) := by decide +kernel
theorem dL_law_341 : decode cL_law 341 = .ok (.iconst 2, 1) := by decide +kernel
theorem dL_law_342 : decode cL_law 342 = .ok (.iadd, 1) := by decide +kernel
theorem dL_law_343 : decode cL_law 343 = .ok (.iaload, 1) := by decide +kernel
theorem dL_law_344 : decode cL_law 344 = .ok (.invokevirtual 38, 3) := by decide +kernel
theorem dL_law_347 : decode cL_law 347 = .ok (.aload_n 2, 1) := by decide +kernel
theorem dL_law_348 : decode cL_law 348 = .ok (.aload_n 0, 1) := by decide +kernel
theorem dL_law_349 : decode cL_law 349 = .ok (.iload 4, 2) := by decide +kernel
theorem dL_law_351 : decode cL_law 351 = .ok (.iconst 1, 1) := by decide +kernel
theorem dL_law_352 : decode cL_law 352 = .ok (.iadd, 1) := by decide +kernel
theorem dL_law_353 : decode cL_law 353 = .ok (.iaload, 1) := by decide +kernel
theorem dL_law_354 : decode cL_law 354 = .ok (.aload_n 0, 1) := by decide +kernel
theorem dL_law_355 : decode cL_law 355 = .ok (.iload 4, 2) := by decide +kernel
theorem dL_law_357 : decode cL_law 357 = .ok (.iconst 2, 1) := by decide +kernel
theorem dL_law_358 : decode cL_law 358 = .ok (.iadd, 1) := by decide +kernel
theorem dL_law_359 : decode cL_law 359 = .ok (.iaload, 1) := by decide +kernel
theorem dL_law_360 : decode cL_law 360 = .ok (.invokevirtual 41, 3) := by decide +kernel
theorem dL_law_363 : decode cL_law 363 = .ok (.if_icmp .eq 1205, 3) := by decide +kernel
theorem dL_law_366 : decode cL_law 366 = .ok (.iconst 0, 1) := by decide +kernel
theorem dL_law_367 : decode cL_law 367 = .ok (.ireturn, 1) := by decide +kernel
theorem dL_law_368 : decode cL_law 368 = .ok (.aload_n 1, 1) := by decide +kernel
theorem dL_law_369 : decode cL_law 369 = .ok (.aload_n 0, 1) := by decide +kernel
theorem dL_law_370 : decode cL_law 370 = .ok (.iload 4, 2) := by decide +kernel
theorem dL_law_372 : decode cL_law 372 = .ok (.iconst 1, 1) := by decide +kernel
theorem dL_law_373 : decode cL_law 373 = .ok (.iadd, 1) := by decide +kernel
theorem dL_law_374 : decode cL_law 374 = .ok (.iaload, 1) := by decide +kernel
theorem dL_law_375 : decode cL_law 375 = .ok (.aload_n 0, 1) := by decide +kernel
theorem dL_law_376 : decode cL_law 376 = .ok (.iload 4, 2) := by decide +kernel
theorem dL_law_378 : decode cL_law 378 = .ok (.iconst 2, 1) := by decide +kernel
theorem dL_law_379 : decode cL_law 379 = .ok (.iadd, 1) := by decide +kernel
theorem dL_law_380 : decode cL_law 380 = .ok (.iaload, 1) := by decide +kernel
theorem dL_law_381 : decode cL_law 381 = .ok (.aload_n 0, 1) := by decide +kernel
theorem dL_law_382 : decode cL_law 382 = .ok (.iload 4, 2) := by decide +kernel
theorem dL_law_384 : decode cL_law 384 = .ok (.iconst 3, 1) := by decide +kernel
theorem dL_law_385 : decode cL_law 385 = .ok (.iadd, 1) := by decide +kernel
theorem dL_law_386 : decode cL_law 386 = .ok (.iaload, 1) := by decide +kernel
theorem dL_law_387 : decode cL_law 387 = .ok (.invokevirtual 42, 3) := by decide +kernel
theorem dL_law_390 : decode cL_law 390 = .ok (.aload_n 2, 1) := by decide +kernel
theorem dL_law_391 : decode cL_law 391 = .ok (.aload_n 0, 1) := by decide +kernel
theorem dL_law_392 : decode cL_law 392 = .ok (.iload 4, 2) := by decide +kernel
theorem dL_law_394 : decode cL_law 394 = .ok (.iconst 1, 1) := by decide +kernel
theorem dL_law_395 : decode cL_law 395 = .ok (.iadd, 1) := by decide +kernel
theorem dL_law_396 : decode cL_law 396 = .ok (.iaload, 1) := by decide +kernel
theorem dL_law_397 : decode cL_law 397 = .ok (.aload_n 0, 1) := by decide +kernel
theorem dL_law_398 : decode cL_law 398 = .ok (.iload 4, 2) := by decide +kernel
theorem dL_law_400 : decode cL_law 400 = .ok (.iconst 2, 1) := by decide +kernel
theorem dL_law_401 : decode cL_law 401 = .ok (.iadd, 1) := by decide +kernel
theorem dL_law_402 : decode cL_law 402 = .ok (.iaload, 1) := by decide +kernel
theorem dL_law_403 : decode cL_law 403 = .ok (.aload_n 0, 1) := by decide +kernel
theorem dL_law_404 : decode cL_law 404 = .ok (.iload 4, 2) := by decide +kernel
theorem dL_law_406 : decode cL_law 406 = .ok (.iconst 3, 1) := by decide +kernel
theorem dL_law_407 : decode cL_law 407 = .ok (.iadd, 1) := by decide +kernel
theorem dL_law_408 : decode cL_law 408 = .ok (.iaload, 1) := by decide +kernel
theorem dL_law_409 : decode cL_law 409 = .ok (.invokevirtual 46, 3) := by decide +kernel
theorem dL_law_412 : decode cL_law 412 = .ok (.if_icmp .eq 1156, 3) := by decide +kernel
theorem dL_law_415 : decode cL_law 415 = .ok (.iconst 0, 1) := by decide +kernel
theorem dL_law_416 : decode cL_law 416 = .ok (.ireturn, 1) := by decide +kernel
theorem dL_law_417 : decode cL_law 417 = .ok (.aload_n 1, 1) := by decide +kernel
theorem dL_law_418 : decode cL_law 418 = .ok (.aload_n 0, 1) := by decide +kernel
theorem dL_law_419 : decode cL_law 419 = .ok (.iload 4, 2) := by decide +kernel
theorem dL_law_421 : decode cL_law 421 = .ok (.iconst 1, 1) := by decide +kernel
theorem dL_law_422 : decode cL_law 422 = .ok (.iadd, 1) := by decide +kernel
theorem dL_law_423 : decode cL_law 423 = .ok (.iaload, 1) := by decide +kernel
theorem dL_law_424 : decode cL_law 424 = .ok (.invokevirtual 47, 3) := by decide +kernel
theorem dL_law_427 : decode cL_law 427 = .ok (.aload_n 2, 1) := by decide +kernel
theorem dL_law_428 : decode cL_law 428 = .ok (.aload_n 0, 1) := by decide +kernel
theorem dL_law_429 : decode cL_law 429 = .ok (.iload 4, 2) := by decide +kernel
theorem dL_law_431 : decode cL_law 431 = .ok (.iconst 1, 1) := by decide +kernel
theorem dL_law_432 : decode cL_law 432 = .ok (.iadd, 1) := by decide +kernel
theorem dL_law_433 : decode cL_law 433 = .ok (.iaload, 1) := by decide +kernel
theorem dL_law_434 : decode cL_law 434 = .ok (.invokevirtual 50, 3) := by decide +kernel
theorem dL_law_437 : decode cL_law 437 = .ok (.if_icmp .eq 1131, 3) := by decide +kernel
theorem dL_law_440 : decode cL_law 440 = .ok (.iconst 0, 1) := by decide +kernel
theorem dL_law_441 : decode cL_law 441 = .ok (.ireturn, 1) := by decide +kernel
theorem dL_law_442 : decode cL_law 442 = .ok (.aload_n 1, 1) := by decide +kernel
theorem dL_law_443 : decode cL_law 443 = .ok (.aload_n 0, 1) := by decide +kernel
theorem dL_law_444 : decode cL_law 444 = .ok (.iload 4, 2) := by decide +kernel
theorem dL_law_446 : decode cL_law 446 = .ok (.iconst 1, 1) := by decide +kernel
theorem dL_law_447 : decode cL_law 447 = .ok (.iadd, 1) := by decide +kernel
theorem dL_law_448 : decode cL_law 448 = .ok (.iaload, 1) := by decide +kernel
theorem dL_law_449 : decode cL_law 449 = .ok (.aload_n 0, 1) := by decide +kernel
theorem dL_law_450 : decode cL_law 450 = .ok (.iload 4, 2) := by decide +kernel
theorem dL_law_452 : decode cL_law 452 = .ok (.iconst 2, 1) := by decide +kernel
theorem dL_law_453 : decode cL_law 453 = .ok (.iadd, 1) := by decide +kernel
theorem dL_law_454 : decode cL_law 454 = .ok (.iaload, 1) := by decide +kernel
theorem dL_law_455 : decode cL_law 455 = .ok (.aload_n 0, 1) := by decide +kernel
theorem dL_law_456 : decode cL_law 456 = .ok (.iload 4, 2) := by decide +kernel
theorem dL_law_458 : decode cL_law 458 = .ok (.iconst 3, 1) := by decide +kernel
theorem dL_law_459 : decode cL_law 459 = .ok (.iadd, 1) := by decide +kernel
theorem dL_law_460 : decode cL_law 460 = .ok (.iaload, 1) := by decide +kernel
theorem dL_law_461 : decode cL_law 461 = .ok (.invokevirtual 51, 3) := by decide +kernel
theorem dL_law_464 : decode cL_law 464 = .ok (.aload_n 2, 1) := by decide +kernel
theorem dL_law_465 : decode cL_law 465 = .ok (.aload_n 0, 1) := by decide +kernel
theorem dL_law_466 : decode cL_law 466 = .ok (.iload 4, 2) := by decide +kernel
theorem dL_law_468 : decode cL_law 468 = .ok (.iconst 1, 1) := by decide +kernel
theorem dL_law_469 : decode cL_law 469 = .ok (.iadd, 1) := by decide +kernel
theorem dL_law_470 : decode cL_law 470 = .ok (.iaload, 1) := by decide +kernel
theorem dL_law_471 : decode cL_law 471 = .ok (.aload_n 0, 1) := by decide +kernel
theorem dL_law_472 : decode cL_law 472 = .ok (.iload 4, 2) := by decide +kernel
theorem dL_law_474 : decode cL_law 474 = .ok (.iconst 2, 1) := by decide +kernel
theorem dL_law_475 : decode cL_law 475 = .ok (.iadd, 1) := by decide +kernel
theorem dL_law_476 : decode cL_law 476 = .ok (.iaload, 1) := by decide +kernel
theorem dL_law_477 : decode cL_law 477 = .ok (.aload_n 0, 1) := by decide +kernel
theorem dL_law_478 : decode cL_law 478 = .ok (.iload 4, 2) := by decide +kernel
theorem dL_law_480 : decode cL_law 480 = .ok (.iconst 3, 1) := by decide +kernel
theorem dL_law_481 : decode cL_law 481 = .ok (.iadd, 1) := by decide +kernel
theorem dL_law_482 : decode cL_law 482 = .ok (.iaload, 1) := by decide +kernel
theorem dL_law_483 : decode cL_law 483 = .ok (.invokevirtual 54, 3) := by decide +kernel
theorem dL_law_486 : decode cL_law 486 = .ok (.if_icmp .eq 1082, 3) := by decide +kernel
theorem dL_law_489 : decode cL_law 489 = .ok (.iconst 0, 1) := by decide +kernel
theorem dL_law_490 : decode cL_law 490 = .ok (.ireturn, 1) := by decide +kernel
theorem dL_law_491 : decode cL_law 491 = .ok (.aload_n 1, 1) := by decide +kernel
theorem dL_law_492 : decode cL_law 492 = .ok (.aload_n 0, 1) := by decide +kernel
theorem dL_law_493 : decode cL_law 493 = .ok (.iload 4, 2) := by decide +kernel
theorem dL_law_495 : decode cL_law 495 = .ok (.iconst 1, 1) := by decide +kernel
theorem dL_law_496 : decode cL_law 496 = .ok (.iadd, 1) := by decide +kernel
theorem dL_law_497 : decode cL_law 497 = .ok (.iaload, 1) := by decide +kernel
theorem dL_law_498 : decode cL_law 498 = .ok (.aload_n 0, 1) := by decide +kernel
theorem dL_law_499 : decode cL_law 499 = .ok (.iload 4, 2) := by decide +kernel
theorem dL_law_501 : decode cL_law 501 = .ok (.iconst 2, 1) := by decide +kernel
theorem dL_law_502 : decode cL_law 502 = .ok (.iadd, 1) := by decide +kernel
theorem dL_law_503 : decode cL_law 503 = .ok (.iaload, 1) := by decide +kernel
theorem dL_law_504 : decode cL_law 504 = .ok (.aload_n 3, 1) := by decide +kernel
theorem dL_law_505 : decode cL_law 505 = .ok (.invokestatic 55, 3) := by decide +kernel
theorem dL_law_508 : decode cL_law 508 = .ok (.istore 5, 2) := by decide +kernel
theorem dL_law_510 : decode cL_law 510 = .ok (.aload_n 2, 1) := by decide +kernel
theorem dL_law_511 : decode cL_law 511 = .ok (.aload_n 0, 1) := by decide +kernel
theorem dL_law_512 : decode cL_law 512 = .ok (.iload 4, 2) := by decide +kernel
theorem dL_law_514 : decode cL_law 514 = .ok (.iconst 1, 1) := by decide +kernel
theorem dL_law_515 : decode cL_law 515 = .ok (.iadd, 1) := by decide +kernel
theorem dL_law_516 : decode cL_law 516 = .ok (.iaload, 1) := by decide +kernel
theorem dL_law_517 : decode cL_law 517 = .ok (.aload_n 0, 1) := by decide +kernel
theorem dL_law_518 : decode cL_law 518 = .ok (.iload 4, 2) := by decide +kernel
theorem dL_law_520 : decode cL_law 520 = .ok (.iconst 2, 1) := by decide +kernel
theorem dL_law_521 : decode cL_law 521 = .ok (.iadd, 1) := by decide +kernel
theorem dL_law_522 : decode cL_law 522 = .ok (.iaload, 1) := by decide +kernel
theorem dL_law_523 : decode cL_law 523 = .ok (.invokevirtual 60, 3) := by decide +kernel
theorem dL_law_526 : decode cL_law 526 = .ok (.istore 6, 2) := by decide +kernel
theorem dL_law_528 : decode cL_law 528 = .ok (.aload_n 2, 1) := by decide +kernel
theorem dL_law_529 : decode cL_law 529 = .ok (.invokevirtual 61, 3) := by decide +kernel
theorem dL_law_532 : decode cL_law 532 = .ok (.iload 5, 2) := by decide +kernel
theorem dL_law_534 : decode cL_law 534 = .ok (.if_icmp .eq 5, 3) := by decide +kernel
theorem dL_law_537 : decode cL_law 537 = .ok (.iconst 0, 1) := by decide +kernel
theorem dL_law_538 : decode cL_law 538 = .ok (.ireturn, 1) := by decide +kernel
theorem dL_law_539 : decode cL_law 539 = .ok (.iload 5, 2) := by decide +kernel
theorem dL_law_541 : decode cL_law 541 = .ok (.ifCond .ne 15, 3) := by decide +kernel
theorem dL_law_544 : decode cL_law 544 = .ok (.aload_n 3, 1) := by decide +kernel
theorem dL_law_545 : decode cL_law 545 = .ok (.iconst 0, 1) := by decide +kernel
theorem dL_law_546 : decode cL_law 546 = .ok (.laload, 1) := by decide +kernel
theorem dL_law_547 : decode cL_law 547 = .ok (.iload 6, 2) := by decide +kernel
theorem dL_law_549 : decode cL_law 549 = .ok (.i2l, 1) := by decide +kernel
theorem dL_law_550 : decode cL_law 550 = .ok (.lcmp, 1) := by decide +kernel
theorem dL_law_551 : decode cL_law 551 = .ok (.ifCond .eq 5, 3) := by decide +kernel
theorem dL_law_554 : decode cL_law 554 = .ok (.iconst 0, 1) := by decide +kernel
theorem dL_law_555 : decode cL_law 555 = .ok (.ireturn, 1) := by decide +kernel
theorem dL_law_556 : decode cL_law 556 = .ok (.goto 1012, 3) := by decide +kernel
theorem dL_law_559 : decode cL_law 559 = .ok (.aload_n 1, 1) := by decide +kernel
theorem dL_law_560 : decode cL_law 560 = .ok (.aload_n 0, 1) := by decide +kernel
theorem dL_law_561 : decode cL_law 561 = .ok (.iload 4, 2) := by decide +kernel
theorem dL_law_563 : decode cL_law 563 = .ok (.iconst 1, 1) := by decide +kernel
theorem dL_law_564 : decode cL_law 564 = .ok (.iadd, 1) := by decide +kernel
theorem dL_law_565 : decode cL_law 565 = .ok (.iaload, 1) := by decide +kernel
theorem dL_law_566 : decode cL_law 566 = .ok (.aload_n 0, 1) := by decide +kernel
theorem dL_law_567 : decode cL_law 567 = .ok (.iload 4, 2) := by decide +kernel
theorem dL_law_569 : decode cL_law 569 = .ok (.iconst 2, 1) := by decide +kernel
theorem dL_law_570 : decode cL_law 570 = .ok (.iadd, 1) := by decide +kernel
theorem dL_law_571 : decode cL_law 571 = .ok (.iaload, 1) := by decide +kernel
theorem dL_law_572 : decode cL_law 572 = .ok (.aload_n 3, 1) := by decide +kernel
theorem dL_law_573 : decode cL_law 573 = .ok (.invokestatic 65, 3) := by decide +kernel
theorem dL_law_576 : decode cL_law 576 = .ok (.istore 5, 2) := by decide +kernel
theorem dL_law_578 : decode cL_law 578 = .ok (.aload_n 2, 1) := by decide +kernel
theorem dL_law_579 : decode cL_law 579 = .ok (.aload_n 0, 1) := by decide +kernel
theorem dL_law_580 : decode cL_law 580 = .ok (.iload 4, 2) := by decide +kernel
theorem dL_law_582 : decode cL_law 582 = .ok (.iconst 1, 1) := by decide +kernel
theorem dL_law_583 : decode cL_law 583 = .ok (.iadd, 1) := by decide +kernel
theorem dL_law_584 : decode cL_law 584 = .ok (.iaload, 1) := by decide +kernel
theorem dL_law_585 : decode cL_law 585 = .ok (.aload_n 0, 1) := by decide +kernel
theorem dL_law_586 : decode cL_law 586 = .ok (.iload 4, 2) := by decide +kernel
theorem dL_law_588 : decode cL_law 588 = .ok (.iconst 2, 1) := by decide +kernel
theorem dL_law_589 : decode cL_law 589 = .ok (.iadd, 1) := by decide +kernel
theorem dL_law_590 : decode cL_law 590 = .ok (.iaload, 1) := by decide +kernel
theorem dL_law_591 : decode cL_law 591 = .ok (.invokevirtual 67, 3) := by decide +kernel
theorem dL_law_594 : decode cL_law 594 = .ok (.istore 6, 2) := by decide +kernel
theorem dL_law_596 : decode cL_law 596 = .ok (.aload_n 2, 1) := by decide +kernel
theorem dL_law_597 : decode cL_law 597 = .ok (.invokevirtual 61, 3) := by decide +kernel
theorem dL_law_600 : decode cL_law 600 = .ok (.iload 5, 2) := by decide +kernel
theorem dL_law_602 : decode cL_law 602 = .ok (.if_icmp .eq 5, 3) := by decide +kernel
theorem dL_law_605 : decode cL_law 605 = .ok (.iconst 0, 1) := by decide +kernel
theorem dL_law_606 : decode cL_law 606 = .ok (.ireturn, 1) := by decide +kernel
theorem dL_law_607 : decode cL_law 607 = .ok (.iload 5, 2) := by decide +kernel
theorem dL_law_609 : decode cL_law 609 = .ok (.ifCond .ne 15, 3) := by decide +kernel
theorem dL_law_612 : decode cL_law 612 = .ok (.aload_n 3, 1) := by decide +kernel
theorem dL_law_613 : decode cL_law 613 = .ok (.iconst 0, 1) := by decide +kernel
theorem dL_law_614 : decode cL_law 614 = .ok (.laload, 1) := by decide +kernel
theorem dL_law_615 : decode cL_law 615 = .ok (.iload 6, 2) := by decide +kernel
theorem dL_law_617 : decode cL_law 617 = .ok (.i2l, 1) := by decide +kernel
theorem dL_law_618 : decode cL_law 618 = .ok (.lcmp, 1) := by decide +kernel
theorem dL_law_619 : decode cL_law 619 = .ok (.ifCond .eq 5, 3) := by decide +kernel
theorem dL_law_622 : decode cL_law 622 = .ok (.iconst 0, 1) := by decide +kernel
theorem dL_law_623 : decode cL_law 623 = .ok (.ireturn, 1) := by decide +kernel
theorem dL_law_624 : decode cL_law 624 = .ok (.goto 944, 3) := by decide +kernel
theorem dL_law_627 : decode cL_law 627 = .ok (.aload_n 1, 1) := by decide +kernel
theorem dL_law_628 : decode cL_law 628 = .ok (.aload_n 0, 1) := by decide +kernel
theorem dL_law_629 : decode cL_law 629 = .ok (.iload 4, 2) := by decide +kernel
theorem dL_law_631 : decode cL_law 631 = .ok (.iconst 1, 1) := by decide +kernel
theorem dL_law_632 : decode cL_law 632 = .ok (.iadd, 1) := by decide +kernel
theorem dL_law_633 : decode cL_law 633 = .ok (.iaload, 1) := by decide +kernel
theorem dL_law_634 : decode cL_law 634 = .ok (.aload_n 0, 1) := by decide +kernel
theorem dL_law_635 : decode cL_law 635 = .ok (.iload 4, 2) := by decide +kernel
theorem dL_law_637 : decode cL_law 637 = .ok (.iconst 2, 1) := by decide +kernel
theorem dL_law_638 : decode cL_law 638 = .ok (.iadd, 1) := by decide +kernel
theorem dL_law_639 : decode cL_law 639 = .ok (.iaload, 1) := by decide +kernel
theorem dL_law_640 : decode cL_law 640 = .ok (.aload_n 0, 1) := by decide +kernel
theorem dL_law_641 : decode cL_law 641 = .ok (.iload 4, 2) := by decide +kernel
theorem dL_law_643 : decode cL_law 643 = .ok (.iconst 3, 1) := by decide +kernel
theorem dL_law_644 : decode cL_law 644 = .ok (.iadd, 1) := by decide +kernel
theorem dL_law_645 : decode cL_law 645 = .ok (.iaload, 1) := by decide +kernel
theorem dL_law_646 : decode cL_law 646 = .ok (.invokevirtual 68, 3) := by decide +kernel
theorem dL_law_649 : decode cL_law 649 = .ok (.aload_n 2, 1) := by decide +kernel
theorem dL_law_650 : decode cL_law 650 = .ok (.aload_n 0, 1) := by decide +kernel
theorem dL_law_651 : decode cL_law 651 = .ok (.iload 4, 2) := by decide +kernel
theorem dL_law_653 : decode cL_law 653 = .ok (.iconst 1, 1) := by decide +kernel
theorem dL_law_654 : decode cL_law 654 = .ok (.iadd, 1) := by decide +kernel
theorem dL_law_655 : decode cL_law 655 = .ok (.iaload, 1) := by decide +kernel
theorem dL_law_656 : decode cL_law 656 = .ok (.aload_n 0, 1) := by decide +kernel
theorem dL_law_657 : decode cL_law 657 = .ok (.iload 4, 2) := by decide +kernel
theorem dL_law_659 : decode cL_law 659 = .ok (.iconst 2, 1) := by decide +kernel
theorem dL_law_660 : decode cL_law 660 = .ok (.iadd, 1) := by decide +kernel
theorem dL_law_661 : decode cL_law 661 = .ok (.iaload, 1) := by decide +kernel
theorem dL_law_662 : decode cL_law 662 = .ok (.aload_n 0, 1) := by decide +kernel
theorem dL_law_663 : decode cL_law 663 = .ok (.iload 4, 2) := by decide +kernel
theorem dL_law_665 : decode cL_law 665 = .ok (.iconst 3, 1) := by decide +kernel
theorem dL_law_666 : decode cL_law 666 = .ok (.iadd, 1) := by decide +kernel
theorem dL_law_667 : decode cL_law 667 = .ok (.iaload, 1) := by decide +kernel
theorem dL_law_668 : decode cL_law 668 = .ok (.invokevirtual 71, 3) := by decide +kernel
theorem dL_law_671 : decode cL_law 671 = .ok (.if_icmp .eq 897, 3) := by decide +kernel
theorem dL_law_674 : decode cL_law 674 = .ok (.iconst 0, 1) := by decide +kernel
theorem dL_law_675 : decode cL_law 675 = .ok (.ireturn, 1) := by decide +kernel
theorem dL_law_676 : decode cL_law 676 = .ok (.aload_n 1, 1) := by decide +kernel
theorem dL_law_677 : decode cL_law 677 = .ok (.aload_n 0, 1) := by decide +kernel
theorem dL_law_678 : decode cL_law 678 = .ok (.iload 4, 2) := by decide +kernel
theorem dL_law_680 : decode cL_law 680 = .ok (.iconst 1, 1) := by decide +kernel
theorem dL_law_681 : decode cL_law 681 = .ok (.iadd, 1) := by decide +kernel
theorem dL_law_682 : decode cL_law 682 = .ok (.iaload, 1) := by decide +kernel
theorem dL_law_683 : decode cL_law 683 = .ok (.aload_n 0, 1) := by decide +kernel
theorem dL_law_684 : decode cL_law 684 = .ok (.iload 4, 2) := by decide +kernel
theorem dL_law_686 : decode cL_law 686 = .ok (.iconst 2, 1) := by decide +kernel
theorem dL_law_687 : decode cL_law 687 = .ok (.iadd, 1) := by decide +kernel
theorem dL_law_688 : decode cL_law 688 = .ok (.iaload, 1) := by decide +kernel
theorem dL_law_689 : decode cL_law 689 = .ok (.invokevirtual 72, 3) := by decide +kernel
theorem dL_law_692 : decode cL_law 692 = .ok (.aload_n 2, 1) := by decide +kernel
theorem dL_law_693 : decode cL_law 693 = .ok (.aload_n 0, 1) := by decide +kernel
theorem dL_law_694 : decode cL_law 694 = .ok (.iload 4, 2) := by decide +kernel
theorem dL_law_696 : decode cL_law 696 = .ok (.iconst 1, 1) := by decide +kernel
theorem dL_law_697 : decode cL_law 697 = .ok (.iadd, 1) := by decide +kernel
theorem dL_law_698 : decode cL_law 698 = .ok (.iaload, 1) := by decide +kernel
theorem dL_law_699 : decode cL_law 699 = .ok (.aload_n 0, 1) := by decide +kernel
theorem dL_law_700 : decode cL_law 700 = .ok (.iload 4, 2) := by decide +kernel
theorem dL_law_702 : decode cL_law 702 = .ok (.iconst 2, 1) := by decide +kernel
theorem dL_law_703 : decode cL_law 703 = .ok (.iadd, 1) := by decide +kernel
theorem dL_law_704 : decode cL_law 704 = .ok (.iaload, 1) := by decide +kernel
theorem dL_law_705 : decode cL_law 705 = .ok (.invokevirtual 75, 3) := by decide +kernel
theorem dL_law_708 : decode cL_law 708 = .ok (.if_icmp .eq 860, 3) := by decide +kernel
theorem dL_law_711 : decode cL_law 711 = .ok (.iconst 0, 1) := by decide +kernel
theorem dL_law_712 : decode cL_law 712 = .ok (.ireturn, 1) := by decide +kernel
theorem dL_law_713 : decode cL_law 713 = .ok (.aload_n 1, 1) := by decide +kernel
theorem dL_law_714 : decode cL_law 714 = .ok (.aload_n 0, 1) := by decide +kernel
theorem dL_law_715 : decode cL_law 715 = .ok (.iload 4, 2) := by decide +kernel
theorem dL_law_717 : decode cL_law 717 = .ok (.iconst 1, 1) := by decide +kernel
theorem dL_law_718 : decode cL_law 718 = .ok (.iadd, 1) := by decide +kernel
theorem dL_law_719 : decode cL_law 719 = .ok (.iaload, 1) := by decide +kernel
theorem dL_law_720 : decode cL_law 720 = .ok (.aload_n 0, 1) := by decide +kernel
theorem dL_law_721 : decode cL_law 721 = .ok (.iload 4, 2) := by decide +kernel
theorem dL_law_723 : decode cL_law 723 = .ok (.iconst 2, 1) := by decide +kernel
theorem dL_law_724 : decode cL_law 724 = .ok (.iadd, 1) := by decide +kernel
theorem dL_law_725 : decode cL_law 725 = .ok (.iaload, 1) := by decide +kernel
theorem dL_law_726 : decode cL_law 726 = .ok (.invokevirtual 76, 3) := by decide +kernel
theorem dL_law_729 : decode cL_law 729 = .ok (.aload_n 2, 1) := by decide +kernel
theorem dL_law_730 : decode cL_law 730 = .ok (.aload_n 0, 1) := by decide +kernel
theorem dL_law_731 : decode cL_law 731 = .ok (.iload 4, 2) := by decide +kernel
theorem dL_law_733 : decode cL_law 733 = .ok (.iconst 1, 1) := by decide +kernel
theorem dL_law_734 : decode cL_law 734 = .ok (.iadd, 1) := by decide +kernel
theorem dL_law_735 : decode cL_law 735 = .ok (.iaload, 1) := by decide +kernel
theorem dL_law_736 : decode cL_law 736 = .ok (.aload_n 0, 1) := by decide +kernel
theorem dL_law_737 : decode cL_law 737 = .ok (.iload 4, 2) := by decide +kernel
theorem dL_law_739 : decode cL_law 739 = .ok (.iconst 2, 1) := by decide +kernel
theorem dL_law_740 : decode cL_law 740 = .ok (.iadd, 1) := by decide +kernel
theorem dL_law_741 : decode cL_law 741 = .ok (.iaload, 1) := by decide +kernel
theorem dL_law_742 : decode cL_law 742 = .ok (.invokevirtual 79, 3) := by decide +kernel
theorem dL_law_745 : decode cL_law 745 = .ok (.if_icmp .eq 823, 3) := by decide +kernel
theorem dL_law_748 : decode cL_law 748 = .ok (.iconst 0, 1) := by decide +kernel
theorem dL_law_749 : decode cL_law 749 = .ok (.ireturn, 1) := by decide +kernel
theorem dL_law_750 : decode cL_law 750 = .ok (.aload_n 1, 1) := by decide +kernel
theorem dL_law_751 : decode cL_law 751 = .ok (.aload_n 0, 1) := by decide +kernel
theorem dL_law_752 : decode cL_law 752 = .ok (.iload 4, 2) := by decide +kernel
theorem dL_law_754 : decode cL_law 754 = .ok (.iconst 1, 1) := by decide +kernel
theorem dL_law_755 : decode cL_law 755 = .ok (.iadd, 1) := by decide +kernel
theorem dL_law_756 : decode cL_law 756 = .ok (.iaload, 1) := by decide +kernel
theorem dL_law_757 : decode cL_law 757 = .ok (.invokevirtual 80, 3) := by decide +kernel
theorem dL_law_760 : decode cL_law 760 = .ok (.aload_n 2, 1) := by decide +kernel
theorem dL_law_761 : decode cL_law 761 = .ok (.aload_n 0, 1) := by decide +kernel
theorem dL_law_762 : decode cL_law 762 = .ok (.iload 4, 2) := by decide +kernel
theorem dL_law_764 : decode cL_law 764 = .ok (.iconst 1, 1) := by decide +kernel
theorem dL_law_765 : decode cL_law 765 = .ok (.iadd, 1) := by decide +kernel
theorem dL_law_766 : decode cL_law 766 = .ok (.iaload, 1) := by decide +kernel
theorem dL_law_767 : decode cL_law 767 = .ok (.invokevirtual 83, 3) := by decide +kernel
theorem dL_law_770 : decode cL_law 770 = .ok (.if_icmp .eq 798, 3) := by decide +kernel
theorem dL_law_773 : decode cL_law 773 = .ok (.iconst 0, 1) := by decide +kernel
theorem dL_law_774 : decode cL_law 774 = .ok (.ireturn, 1) := by decide +kernel
theorem dL_law_775 : decode cL_law 775 = .ok (.aload_n 1, 1) := by decide +kernel
theorem dL_law_776 : decode cL_law 776 = .ok (.aload_n 0, 1) := by decide +kernel
theorem dL_law_777 : decode cL_law 777 = .ok (.iload 4, 2) := by decide +kernel
theorem dL_law_779 : decode cL_law 779 = .ok (.iconst 1, 1) := by decide +kernel
theorem dL_law_780 : decode cL_law 780 = .ok (.iadd, 1) := by decide +kernel
theorem dL_law_781 : decode cL_law 781 = .ok (.iaload, 1) := by decide +kernel
theorem dL_law_782 : decode cL_law 782 = .ok (.invokevirtual 84, 3) := by decide +kernel
theorem dL_law_785 : decode cL_law 785 = .ok (.aload_n 2, 1) := by decide +kernel
theorem dL_law_786 : decode cL_law 786 = .ok (.aload_n 0, 1) := by decide +kernel
theorem dL_law_787 : decode cL_law 787 = .ok (.iload 4, 2) := by decide +kernel
theorem dL_law_789 : decode cL_law 789 = .ok (.iconst 1, 1) := by decide +kernel
theorem dL_law_790 : decode cL_law 790 = .ok (.iadd, 1) := by decide +kernel
theorem dL_law_791 : decode cL_law 791 = .ok (.iaload, 1) := by decide +kernel
theorem dL_law_792 : decode cL_law 792 = .ok (.invokevirtual 87, 3) := by decide +kernel
theorem dL_law_795 : decode cL_law 795 = .ok (.if_icmp .eq 773, 3) := by decide +kernel
theorem dL_law_798 : decode cL_law 798 = .ok (.iconst 0, 1) := by decide +kernel
theorem dL_law_799 : decode cL_law 799 = .ok (.ireturn, 1) := by decide +kernel
theorem dL_law_800 : decode cL_law 800 = .ok (.aload_n 1, 1) := by decide +kernel
theorem dL_law_801 : decode cL_law 801 = .ok (.aload_n 0, 1) := by decide +kernel
theorem dL_law_802 : decode cL_law 802 = .ok (.iload 4, 2) := by decide +kernel
theorem dL_law_804 : decode cL_law 804 = .ok (.iconst 1, 1) := by decide +kernel
theorem dL_law_805 : decode cL_law 805 = .ok (.iadd, 1) := by decide +kernel
theorem dL_law_806 : decode cL_law 806 = .ok (.iaload, 1) := by decide +kernel
theorem dL_law_807 : decode cL_law 807 = .ok (.aload_n 0, 1) := by decide +kernel
theorem dL_law_808 : decode cL_law 808 = .ok (.iload 4, 2) := by decide +kernel
theorem dL_law_810 : decode cL_law 810 = .ok (.iconst 2, 1) := by decide +kernel
theorem dL_law_811 : decode cL_law 811 = .ok (.iadd, 1) := by decide +kernel
theorem dL_law_812 : decode cL_law 812 = .ok (.iaload, 1) := by decide +kernel
theorem dL_law_813 : decode cL_law 813 = .ok (.invokevirtual 88, 3) := by decide +kernel
theorem dL_law_816 : decode cL_law 816 = .ok (.aload_n 2, 1) := by decide +kernel
theorem dL_law_817 : decode cL_law 817 = .ok (.aload_n 0, 1) := by decide +kernel
theorem dL_law_818 : decode cL_law 818 = .ok (.iload 4, 2) := by decide +kernel
theorem dL_law_820 : decode cL_law 820 = .ok (.iconst 1, 1) := by decide +kernel
theorem dL_law_821 : decode cL_law 821 = .ok (.iadd, 1) := by decide +kernel
theorem dL_law_822 : decode cL_law 822 = .ok (.iaload, 1) := by decide +kernel
theorem dL_law_823 : decode cL_law 823 = .ok (.aload_n 0, 1) := by decide +kernel
theorem dL_law_824 : decode cL_law 824 = .ok (.iload 4, 2) := by decide +kernel
theorem dL_law_826 : decode cL_law 826 = .ok (.iconst 2, 1) := by decide +kernel
theorem dL_law_827 : decode cL_law 827 = .ok (.iadd, 1) := by decide +kernel
theorem dL_law_828 : decode cL_law 828 = .ok (.iaload, 1) := by decide +kernel
theorem dL_law_829 : decode cL_law 829 = .ok (.invokevirtual 91, 3) := by decide +kernel
theorem dL_law_832 : decode cL_law 832 = .ok (.if_icmp .eq 736, 3) := by decide +kernel
theorem dL_law_835 : decode cL_law 835 = .ok (.iconst 0, 1) := by decide +kernel
theorem dL_law_836 : decode cL_law 836 = .ok (.ireturn, 1) := by decide +kernel
theorem dL_law_837 : decode cL_law 837 = .ok (.aload_n 1, 1) := by decide +kernel
theorem dL_law_838 : decode cL_law 838 = .ok (.aload_n 0, 1) := by decide +kernel
theorem dL_law_839 : decode cL_law 839 = .ok (.iload 4, 2) := by decide +kernel
theorem dL_law_841 : decode cL_law 841 = .ok (.iconst 1, 1) := by decide +kernel
theorem dL_law_842 : decode cL_law 842 = .ok (.iadd, 1) := by decide +kernel
theorem dL_law_843 : decode cL_law 843 = .ok (.iaload, 1) := by decide +kernel
theorem dL_law_844 : decode cL_law 844 = .ok (.aload_n 0, 1) := by decide +kernel
theorem dL_law_845 : decode cL_law 845 = .ok (.iload 4, 2) := by decide +kernel
theorem dL_law_847 : decode cL_law 847 = .ok (.iconst 2, 1) := by decide +kernel
theorem dL_law_848 : decode cL_law 848 = .ok (.iadd, 1) := by decide +kernel
theorem dL_law_849 : decode cL_law 849 = .ok (.iaload, 1) := by decide +kernel
theorem dL_law_850 : decode cL_law 850 = .ok (.invokevirtual 92, 3) := by decide +kernel
theorem dL_law_853 : decode cL_law 853 = .ok (.aload_n 2, 1) := by decide +kernel
theorem dL_law_854 : decode cL_law 854 = .ok (.aload_n 0, 1) := by decide +kernel
theorem dL_law_855 : decode cL_law 855 = .ok (.iload 4, 2) := by decide +kernel
theorem dL_law_857 : decode cL_law 857 = .ok (.iconst 1, 1) := by decide +kernel
theorem dL_law_858 : decode cL_law 858 = .ok (.iadd, 1) := by decide +kernel
theorem dL_law_859 : decode cL_law 859 = .ok (.iaload, 1) := by decide +kernel
theorem dL_law_860 : decode cL_law 860 = .ok (.aload_n 0, 1) := by decide +kernel
theorem dL_law_861 : decode cL_law 861 = .ok (.iload 4, 2) := by decide +kernel
theorem dL_law_863 : decode cL_law 863 = .ok (.iconst 2, 1) := by decide +kernel
theorem dL_law_864 : decode cL_law 864 = .ok (.iadd, 1) := by decide +kernel
theorem dL_law_865 : decode cL_law 865 = .ok (.iaload, 1) := by decide +kernel
theorem dL_law_866 : decode cL_law 866 = .ok (.invokevirtual 95, 3) := by decide +kernel
theorem dL_law_869 : decode cL_law 869 = .ok (.if_icmp .eq 699, 3) := by decide +kernel
theorem dL_law_872 : decode cL_law 872 = .ok (.iconst 0, 1) := by decide +kernel
theorem dL_law_873 : decode cL_law 873 = .ok (.ireturn, 1) := by decide +kernel
theorem dL_law_874 : decode cL_law 874 = .ok (.aload_n 1, 1) := by decide +kernel
theorem dL_law_875 : decode cL_law 875 = .ok (.aload_n 0, 1) := by decide +kernel
theorem dL_law_876 : decode cL_law 876 = .ok (.iload 4, 2) := by decide +kernel
theorem dL_law_878 : decode cL_law 878 = .ok (.iconst 1, 1) := by decide +kernel
theorem dL_law_879 : decode cL_law 879 = .ok (.iadd, 1) := by decide +kernel
theorem dL_law_880 : decode cL_law 880 = .ok (.iaload, 1) := by decide +kernel
theorem dL_law_881 : decode cL_law 881 = .ok (.aload_n 0, 1) := by decide +kernel
theorem dL_law_882 : decode cL_law 882 = .ok (.iload 4, 2) := by decide +kernel
theorem dL_law_884 : decode cL_law 884 = .ok (.iconst 2, 1) := by decide +kernel
theorem dL_law_885 : decode cL_law 885 = .ok (.iadd, 1) := by decide +kernel
theorem dL_law_886 : decode cL_law 886 = .ok (.iaload, 1) := by decide +kernel
theorem dL_law_887 : decode cL_law 887 = .ok (.aload_n 0, 1) := by decide +kernel
theorem dL_law_888 : decode cL_law 888 = .ok (.iload 4, 2) := by decide +kernel
theorem dL_law_890 : decode cL_law 890 = .ok (.iconst 3, 1) := by decide +kernel
theorem dL_law_891 : decode cL_law 891 = .ok (.iadd, 1) := by decide +kernel
theorem dL_law_892 : decode cL_law 892 = .ok (.iaload, 1) := by decide +kernel
theorem dL_law_893 : decode cL_law 893 = .ok (.invokevirtual 96, 3) := by decide +kernel
theorem dL_law_896 : decode cL_law 896 = .ok (.aload_n 2, 1) := by decide +kernel
theorem dL_law_897 : decode cL_law 897 = .ok (.aload_n 0, 1) := by decide +kernel
theorem dL_law_898 : decode cL_law 898 = .ok (.iload 4, 2) := by decide +kernel
theorem dL_law_900 : decode cL_law 900 = .ok (.iconst 1, 1) := by decide +kernel
theorem dL_law_901 : decode cL_law 901 = .ok (.iadd, 1) := by decide +kernel
theorem dL_law_902 : decode cL_law 902 = .ok (.iaload, 1) := by decide +kernel
theorem dL_law_903 : decode cL_law 903 = .ok (.aload_n 0, 1) := by decide +kernel
theorem dL_law_904 : decode cL_law 904 = .ok (.iload 4, 2) := by decide +kernel
theorem dL_law_906 : decode cL_law 906 = .ok (.iconst 2, 1) := by decide +kernel
theorem dL_law_907 : decode cL_law 907 = .ok (.iadd, 1) := by decide +kernel
theorem dL_law_908 : decode cL_law 908 = .ok (.iaload, 1) := by decide +kernel
theorem dL_law_909 : decode cL_law 909 = .ok (.aload_n 0, 1) := by decide +kernel
theorem dL_law_910 : decode cL_law 910 = .ok (.iload 4, 2) := by decide +kernel
theorem dL_law_912 : decode cL_law 912 = .ok (.iconst 3, 1) := by decide +kernel
theorem dL_law_913 : decode cL_law 913 = .ok (.iadd, 1) := by decide +kernel
theorem dL_law_914 : decode cL_law 914 = .ok (.iaload, 1) := by decide +kernel
theorem dL_law_915 : decode cL_law 915 = .ok (.invokevirtual 99, 3) := by decide +kernel
theorem dL_law_918 : decode cL_law 918 = .ok (.if_icmp .eq 650, 3) := by decide +kernel
theorem dL_law_921 : decode cL_law 921 = .ok (.iconst 0, 1) := by decide +kernel
theorem dL_law_922 : decode cL_law 922 = .ok (.ireturn, 1) := by decide +kernel
theorem dL_law_923 : decode cL_law 923 = .ok (.aload_n 1, 1) := by decide +kernel
theorem dL_law_924 : decode cL_law 924 = .ok (.aload_n 0, 1) := by decide +kernel
theorem dL_law_925 : decode cL_law 925 = .ok (.iload 4, 2) := by decide +kernel
theorem dL_law_927 : decode cL_law 927 = .ok (.iconst 1, 1) := by decide +kernel
theorem dL_law_928 : decode cL_law 928 = .ok (.iadd, 1) := by decide +kernel
theorem dL_law_929 : decode cL_law 929 = .ok (.iaload, 1) := by decide +kernel
theorem dL_law_930 : decode cL_law 930 = .ok (.invokevirtual 100, 3) := by decide +kernel
theorem dL_law_933 : decode cL_law 933 = .ok (.aload_n 2, 1) := by decide +kernel
theorem dL_law_934 : decode cL_law 934 = .ok (.aload_n 0, 1) := by decide +kernel
theorem dL_law_935 : decode cL_law 935 = .ok (.iload 4, 2) := by decide +kernel
theorem dL_law_937 : decode cL_law 937 = .ok (.iconst 1, 1) := by decide +kernel
theorem dL_law_938 : decode cL_law 938 = .ok (.iadd, 1) := by decide +kernel
theorem dL_law_939 : decode cL_law 939 = .ok (.iaload, 1) := by decide +kernel
theorem dL_law_940 : decode cL_law 940 = .ok (.invokevirtual 103, 3) := by decide +kernel
theorem dL_law_943 : decode cL_law 943 = .ok (.if_icmp .eq 625, 3) := by decide +kernel
theorem dL_law_946 : decode cL_law 946 = .ok (.iconst 0, 1) := by decide +kernel
theorem dL_law_947 : decode cL_law 947 = .ok (.ireturn, 1) := by decide +kernel
theorem dL_law_948 : decode cL_law 948 = .ok (.aload_n 1, 1) := by decide +kernel
theorem dL_law_949 : decode cL_law 949 = .ok (.aload_n 0, 1) := by decide +kernel
theorem dL_law_950 : decode cL_law 950 = .ok (.iload 4, 2) := by decide +kernel
theorem dL_law_952 : decode cL_law 952 = .ok (.iconst 1, 1) := by decide +kernel
theorem dL_law_953 : decode cL_law 953 = .ok (.iadd, 1) := by decide +kernel
theorem dL_law_954 : decode cL_law 954 = .ok (.iaload, 1) := by decide +kernel
theorem dL_law_955 : decode cL_law 955 = .ok (.aload_n 0, 1) := by decide +kernel
theorem dL_law_956 : decode cL_law 956 = .ok (.iload 4, 2) := by decide +kernel
theorem dL_law_958 : decode cL_law 958 = .ok (.iconst 2, 1) := by decide +kernel
theorem dL_law_959 : decode cL_law 959 = .ok (.iadd, 1) := by decide +kernel
theorem dL_law_960 : decode cL_law 960 = .ok (.iaload, 1) := by decide +kernel
theorem dL_law_961 : decode cL_law 961 = .ok (.invokevirtual 104, 3) := by decide +kernel
theorem dL_law_964 : decode cL_law 964 = .ok (.aload_n 2, 1) := by decide +kernel
theorem dL_law_965 : decode cL_law 965 = .ok (.aload_n 0, 1) := by decide +kernel
theorem dL_law_966 : decode cL_law 966 = .ok (.iload 4, 2) := by decide +kernel
theorem dL_law_968 : decode cL_law 968 = .ok (.iconst 1, 1) := by decide +kernel
theorem dL_law_969 : decode cL_law 969 = .ok (.iadd, 1) := by decide +kernel
theorem dL_law_970 : decode cL_law 970 = .ok (.iaload, 1) := by decide +kernel
theorem dL_law_971 : decode cL_law 971 = .ok (.aload_n 0, 1) := by decide +kernel
theorem dL_law_972 : decode cL_law 972 = .ok (.iload 4, 2) := by decide +kernel
theorem dL_law_974 : decode cL_law 974 = .ok (.iconst 2, 1) := by decide +kernel
theorem dL_law_975 : decode cL_law 975 = .ok (.iadd, 1) := by decide +kernel
theorem dL_law_976 : decode cL_law 976 = .ok (.iaload, 1) := by decide +kernel
theorem dL_law_977 : decode cL_law 977 = .ok (.invokevirtual 107, 3) := by decide +kernel
theorem dL_law_980 : decode cL_law 980 = .ok (.if_icmp .eq 588, 3) := by decide +kernel
theorem dL_law_983 : decode cL_law 983 = .ok (.iconst 0, 1) := by decide +kernel
theorem dL_law_984 : decode cL_law 984 = .ok (.ireturn, 1) := by decide +kernel
theorem dL_law_985 : decode cL_law 985 = .ok (.aload_n 1, 1) := by decide +kernel
theorem dL_law_986 : decode cL_law 986 = .ok (.aload_n 0, 1) := by decide +kernel
theorem dL_law_987 : decode cL_law 987 = .ok (.iload 4, 2) := by decide +kernel
theorem dL_law_989 : decode cL_law 989 = .ok (.iconst 1, 1) := by decide +kernel
theorem dL_law_990 : decode cL_law 990 = .ok (.iadd, 1) := by decide +kernel
theorem dL_law_991 : decode cL_law 991 = .ok (.iaload, 1) := by decide +kernel
theorem dL_law_992 : decode cL_law 992 = .ok (.aload_n 0, 1) := by decide +kernel
theorem dL_law_993 : decode cL_law 993 = .ok (.iload 4, 2) := by decide +kernel
theorem dL_law_995 : decode cL_law 995 = .ok (.iconst 2, 1) := by decide +kernel
theorem dL_law_996 : decode cL_law 996 = .ok (.iadd, 1) := by decide +kernel
theorem dL_law_997 : decode cL_law 997 = .ok (.iaload, 1) := by decide +kernel
theorem dL_law_998 : decode cL_law 998 = .ok (.invokevirtual 108, 3) := by decide +kernel
theorem dL_law_1001 : decode cL_law 1001 = .ok (.aload_n 2, 1) := by decide +kernel
theorem dL_law_1002 : decode cL_law 1002 = .ok (.aload_n 0, 1) := by decide +kernel
theorem dL_law_1003 : decode cL_law 1003 = .ok (.iload 4, 2) := by decide +kernel
theorem dL_law_1005 : decode cL_law 1005 = .ok (.iconst 1, 1) := by decide +kernel
theorem dL_law_1006 : decode cL_law 1006 = .ok (.iadd, 1) := by decide +kernel
theorem dL_law_1007 : decode cL_law 1007 = .ok (.iaload, 1) := by decide +kernel
theorem dL_law_1008 : decode cL_law 1008 = .ok (.aload_n 0, 1) := by decide +kernel
theorem dL_law_1009 : decode cL_law 1009 = .ok (.iload 4, 2) := by decide +kernel
theorem dL_law_1011 : decode cL_law 1011 = .ok (.iconst 2, 1) := by decide +kernel
theorem dL_law_1012 : decode cL_law 1012 = .ok (.iadd, 1) := by decide +kernel
theorem dL_law_1013 : decode cL_law 1013 = .ok (.iaload, 1) := by decide +kernel
theorem dL_law_1014 : decode cL_law 1014 = .ok (.invokevirtual 111, 3) := by decide +kernel
theorem dL_law_1017 : decode cL_law 1017 = .ok (.if_icmp .eq 551, 3) := by decide +kernel
theorem dL_law_1020 : decode cL_law 1020 = .ok (.iconst 0, 1) := by decide +kernel
theorem dL_law_1021 : decode cL_law 1021 = .ok (.ireturn, 1) := by decide +kernel
theorem dL_law_1022 : decode cL_law 1022 = .ok (.aload_n 1, 1) := by decide +kernel
theorem dL_law_1023 : decode cL_law 1023 = .ok (.aload_n 0, 1) := by decide +kernel
theorem dL_law_1024 : decode cL_law 1024 = .ok (.iload 4, 2) := by decide +kernel
theorem dL_law_1026 : decode cL_law 1026 = .ok (.iconst 1, 1) := by decide +kernel
theorem dL_law_1027 : decode cL_law 1027 = .ok (.iadd, 1) := by decide +kernel
theorem dL_law_1028 : decode cL_law 1028 = .ok (.iaload, 1) := by decide +kernel
theorem dL_law_1029 : decode cL_law 1029 = .ok (.aload_n 0, 1) := by decide +kernel
theorem dL_law_1030 : decode cL_law 1030 = .ok (.iload 4, 2) := by decide +kernel
theorem dL_law_1032 : decode cL_law 1032 = .ok (.iconst 2, 1) := by decide +kernel
theorem dL_law_1033 : decode cL_law 1033 = .ok (.iadd, 1) := by decide +kernel
theorem dL_law_1034 : decode cL_law 1034 = .ok (.iaload, 1) := by decide +kernel
theorem dL_law_1035 : decode cL_law 1035 = .ok (.aload_n 0, 1) := by decide +kernel
theorem dL_law_1036 : decode cL_law 1036 = .ok (.iload 4, 2) := by decide +kernel
theorem dL_law_1038 : decode cL_law 1038 = .ok (.iconst 3, 1) := by decide +kernel
theorem dL_law_1039 : decode cL_law 1039 = .ok (.iadd, 1) := by decide +kernel
theorem dL_law_1040 : decode cL_law 1040 = .ok (.iaload, 1) := by decide +kernel
theorem dL_law_1041 : decode cL_law 1041 = .ok (.invokevirtual 112, 3) := by decide +kernel
theorem dL_law_1044 : decode cL_law 1044 = .ok (.aload_n 2, 1) := by decide +kernel
theorem dL_law_1045 : decode cL_law 1045 = .ok (.aload_n 0, 1) := by decide +kernel
theorem dL_law_1046 : decode cL_law 1046 = .ok (.iload 4, 2) := by decide +kernel
theorem dL_law_1048 : decode cL_law 1048 = .ok (.iconst 1, 1) := by decide +kernel
theorem dL_law_1049 : decode cL_law 1049 = .ok (.iadd, 1) := by decide +kernel
theorem dL_law_1050 : decode cL_law 1050 = .ok (.iaload, 1) := by decide +kernel
theorem dL_law_1051 : decode cL_law 1051 = .ok (.aload_n 0, 1) := by decide +kernel
theorem dL_law_1052 : decode cL_law 1052 = .ok (.iload 4, 2) := by decide +kernel
theorem dL_law_1054 : decode cL_law 1054 = .ok (.iconst 2, 1) := by decide +kernel
theorem dL_law_1055 : decode cL_law 1055 = .ok (.iadd, 1) := by decide +kernel
theorem dL_law_1056 : decode cL_law 1056 = .ok (.iaload, 1) := by decide +kernel
theorem dL_law_1057 : decode cL_law 1057 = .ok (.aload_n 0, 1) := by decide +kernel
theorem dL_law_1058 : decode cL_law 1058 = .ok (.iload 4, 2) := by decide +kernel
theorem dL_law_1060 : decode cL_law 1060 = .ok (.iconst 3, 1) := by decide +kernel
theorem dL_law_1061 : decode cL_law 1061 = .ok (.iadd, 1) := by decide +kernel
theorem dL_law_1062 : decode cL_law 1062 = .ok (.iaload, 1) := by decide +kernel
theorem dL_law_1063 : decode cL_law 1063 = .ok (.invokevirtual 115, 3) := by decide +kernel
theorem dL_law_1066 : decode cL_law 1066 = .ok (.if_icmp .eq 502, 3) := by decide +kernel
theorem dL_law_1069 : decode cL_law 1069 = .ok (.iconst 0, 1) := by decide +kernel
theorem dL_law_1070 : decode cL_law 1070 = .ok (.ireturn, 1) := by decide +kernel
theorem dL_law_1071 : decode cL_law 1071 = .ok (.aload_n 1, 1) := by decide +kernel
theorem dL_law_1072 : decode cL_law 1072 = .ok (.aload_n 0, 1) := by decide +kernel
theorem dL_law_1073 : decode cL_law 1073 = .ok (.iload 4, 2) := by decide +kernel
theorem dL_law_1075 : decode cL_law 1075 = .ok (.iconst 1, 1) := by decide +kernel
theorem dL_law_1076 : decode cL_law 1076 = .ok (.iadd, 1) := by decide +kernel
theorem dL_law_1077 : decode cL_law 1077 = .ok (.iaload, 1) := by decide +kernel
theorem dL_law_1078 : decode cL_law 1078 = .ok (.invokevirtual 116, 3) := by decide +kernel
theorem dL_law_1081 : decode cL_law 1081 = .ok (.aload_n 2, 1) := by decide +kernel
theorem dL_law_1082 : decode cL_law 1082 = .ok (.aload_n 0, 1) := by decide +kernel
theorem dL_law_1083 : decode cL_law 1083 = .ok (.iload 4, 2) := by decide +kernel
theorem dL_law_1085 : decode cL_law 1085 = .ok (.iconst 1, 1) := by decide +kernel
theorem dL_law_1086 : decode cL_law 1086 = .ok (.iadd, 1) := by decide +kernel
theorem dL_law_1087 : decode cL_law 1087 = .ok (.iaload, 1) := by decide +kernel
theorem dL_law_1088 : decode cL_law 1088 = .ok (.invokevirtual 119, 3) := by decide +kernel
theorem dL_law_1091 : decode cL_law 1091 = .ok (.if_icmp .eq 477, 3) := by decide +kernel
theorem dL_law_1094 : decode cL_law 1094 = .ok (.iconst 0, 1) := by decide +kernel
theorem dL_law_1095 : decode cL_law 1095 = .ok (.ireturn, 1) := by decide +kernel
theorem dL_law_1096 : decode cL_law 1096 = .ok (.aload_n 1, 1) := by decide +kernel
theorem dL_law_1097 : decode cL_law 1097 = .ok (.invokevirtual 120, 3) := by decide +kernel
theorem dL_law_1100 : decode cL_law 1100 = .ok (.aload_n 2, 1) := by decide +kernel
theorem dL_law_1101 : decode cL_law 1101 = .ok (.invokevirtual 123, 3) := by decide +kernel
theorem dL_law_1104 : decode cL_law 1104 = .ok (.if_icmp .eq 464, 3) := by decide +kernel
theorem dL_law_1107 : decode cL_law 1107 = .ok (.iconst 0, 1) := by decide +kernel
theorem dL_law_1108 : decode cL_law 1108 = .ok (.ireturn, 1) := by decide +kernel
theorem dL_law_1109 : decode cL_law 1109 = .ok (.aload_n 1, 1) := by decide +kernel
theorem dL_law_1110 : decode cL_law 1110 = .ok (.invokevirtual 124, 3) := by decide +kernel
theorem dL_law_1113 : decode cL_law 1113 = .ok (.aload_n 2, 1) := by decide +kernel
theorem dL_law_1114 : decode cL_law 1114 = .ok (.invokevirtual 127, 3) := by decide +kernel
theorem dL_law_1117 : decode cL_law 1117 = .ok (.if_icmp .eq 451, 3) := by decide +kernel
theorem dL_law_1120 : decode cL_law 1120 = .ok (.iconst 0, 1) := by decide +kernel
theorem dL_law_1121 : decode cL_law 1121 = .ok (.ireturn, 1) := by decide +kernel
theorem dL_law_1122 : decode cL_law 1122 = .ok (.aload_n 1, 1) := by decide +kernel
theorem dL_law_1123 : decode cL_law 1123 = .ok (.aload_n 0, 1) := by decide +kernel
theorem dL_law_1124 : decode cL_law 1124 = .ok (.iload 4, 2) := by decide +kernel
theorem dL_law_1126 : decode cL_law 1126 = .ok (.iconst 1, 1) := by decide +kernel
theorem dL_law_1127 : decode cL_law 1127 = .ok (.iadd, 1) := by decide +kernel
theorem dL_law_1128 : decode cL_law 1128 = .ok (.iaload, 1) := by decide +kernel
theorem dL_law_1129 : decode cL_law 1129 = .ok (.aload_n 0, 1) := by decide +kernel
theorem dL_law_1130 : decode cL_law 1130 = .ok (.iload 4, 2) := by decide +kernel
theorem dL_law_1132 : decode cL_law 1132 = .ok (.iconst 2, 1) := by decide +kernel
theorem dL_law_1133 : decode cL_law 1133 = .ok (.iadd, 1) := by decide +kernel
theorem dL_law_1134 : decode cL_law 1134 = .ok (.iaload, 1) := by decide +kernel
theorem dL_law_1135 : decode cL_law 1135 = .ok (.invokevirtual 128, 3) := by decide +kernel
theorem dL_law_1138 : decode cL_law 1138 = .ok (.aload_n 2, 1) := by decide +kernel
theorem dL_law_1139 : decode cL_law 1139 = .ok (.aload_n 0, 1) := by decide +kernel
theorem dL_law_1140 : decode cL_law 1140 = .ok (.iload 4, 2) := by decide +kernel
theorem dL_law_1142 : decode cL_law 1142 = .ok (.iconst 1, 1) := by decide +kernel
theorem dL_law_1143 : decode cL_law 1143 = .ok (.iadd, 1) := by decide +kernel
theorem dL_law_1144 : decode cL_law 1144 = .ok (.iaload, 1) := by decide +kernel
theorem dL_law_1145 : decode cL_law 1145 = .ok (.aload_n 0, 1) := by decide +kernel
theorem dL_law_1146 : decode cL_law 1146 = .ok (.iload 4, 2) := by decide +kernel
theorem dL_law_1148 : decode cL_law 1148 = .ok (.iconst 2, 1) := by decide +kernel
theorem dL_law_1149 : decode cL_law 1149 = .ok (.iadd, 1) := by decide +kernel
theorem dL_law_1150 : decode cL_law 1150 = .ok (.iaload, 1) := by decide +kernel
theorem dL_law_1151 : decode cL_law 1151 = .ok (.invokevirtual 131, 3) := by decide +kernel
theorem dL_law_1154 : decode cL_law 1154 = .ok (.if_icmp .eq 414, 3) := by decide +kernel
theorem dL_law_1157 : decode cL_law 1157 = .ok (.iconst 0, 1) := by decide +kernel
theorem dL_law_1158 : decode cL_law 1158 = .ok (.ireturn, 1) := by decide +kernel
theorem dL_law_1159 : decode cL_law 1159 = .ok (.aload_n 1, 1) := by decide +kernel
theorem dL_law_1160 : decode cL_law 1160 = .ok (.aload_n 0, 1) := by decide +kernel
theorem dL_law_1161 : decode cL_law 1161 = .ok (.iload 4, 2) := by decide +kernel
theorem dL_law_1163 : decode cL_law 1163 = .ok (.iconst 1, 1) := by decide +kernel
theorem dL_law_1164 : decode cL_law 1164 = .ok (.iadd, 1) := by decide +kernel
theorem dL_law_1165 : decode cL_law 1165 = .ok (.iaload, 1) := by decide +kernel
theorem dL_law_1166 : decode cL_law 1166 = .ok (.invokevirtual 132, 3) := by decide +kernel
theorem dL_law_1169 : decode cL_law 1169 = .ok (.aload_n 2, 1) := by decide +kernel
theorem dL_law_1170 : decode cL_law 1170 = .ok (.aload_n 0, 1) := by decide +kernel
theorem dL_law_1171 : decode cL_law 1171 = .ok (.iload 4, 2) := by decide +kernel
theorem dL_law_1173 : decode cL_law 1173 = .ok (.iconst 1, 1) := by decide +kernel
theorem dL_law_1174 : decode cL_law 1174 = .ok (.iadd, 1) := by decide +kernel
theorem dL_law_1175 : decode cL_law 1175 = .ok (.iaload, 1) := by decide +kernel
theorem dL_law_1176 : decode cL_law 1176 = .ok (.invokevirtual 135, 3) := by decide +kernel
theorem dL_law_1179 : decode cL_law 1179 = .ok (.if_icmp .eq 389, 3) := by decide +kernel
theorem dL_law_1182 : decode cL_law 1182 = .ok (.iconst 0, 1) := by decide +kernel
theorem dL_law_1183 : decode cL_law 1183 = .ok (.ireturn, 1) := by decide +kernel
theorem dL_law_1184 : decode cL_law 1184 = .ok (.aload_n 1, 1) := by decide +kernel
theorem dL_law_1185 : decode cL_law 1185 = .ok (.aload_n 0, 1) := by decide +kernel
theorem dL_law_1186 : decode cL_law 1186 = .ok (.iload 4, 2) := by decide +kernel
theorem dL_law_1188 : decode cL_law 1188 = .ok (.iconst 1, 1) := by decide +kernel
theorem dL_law_1189 : decode cL_law 1189 = .ok (.iadd, 1) := by decide +kernel
theorem dL_law_1190 : decode cL_law 1190 = .ok (.iaload, 1) := by decide +kernel
theorem dL_law_1191 : decode cL_law 1191 = .ok (.invokevirtual 136, 3) := by decide +kernel
theorem dL_law_1194 : decode cL_law 1194 = .ok (.aload_n 2, 1) := by decide +kernel
theorem dL_law_1195 : decode cL_law 1195 = .ok (.aload_n 0, 1) := by decide +kernel
theorem dL_law_1196 : decode cL_law 1196 = .ok (.iload 4, 2) := by decide +kernel
theorem dL_law_1198 : decode cL_law 1198 = .ok (.iconst 1, 1) := by decide +kernel
theorem dL_law_1199 : decode cL_law 1199 = .ok (.iadd, 1) := by decide +kernel
theorem dL_law_1200 : decode cL_law 1200 = .ok (.iaload, 1) := by decide +kernel
theorem dL_law_1201 : decode cL_law 1201 = .ok (.invokevirtual 139, 3) := by decide +kernel
theorem dL_law_1204 : decode cL_law 1204 = .ok (.if_icmp .eq 364, 3) := by decide +kernel
theorem dL_law_1207 : decode cL_law 1207 = .ok (.iconst 0, 1) := by decide +kernel
theorem dL_law_1208 : decode cL_law 1208 = .ok (.ireturn, 1) := by decide +kernel
theorem dL_law_1209 : decode cL_law 1209 = .ok (.aload_n 1, 1) := by decide +kernel
theorem dL_law_1210 : decode cL_law 1210 = .ok (.invokevirtual 140, 3) := by decide +kernel
theorem dL_law_1213 : decode cL_law 1213 = .ok (.aload_n 2, 1) := by decide +kernel
theorem dL_law_1214 : decode cL_law 1214 = .ok (.invokevirtual 143, 3) := by decide +kernel
theorem dL_law_1217 : decode cL_law 1217 = .ok (.if_icmp .eq 351, 3) := by decide +kernel
theorem dL_law_1220 : decode cL_law 1220 = .ok (.iconst 0, 1) := by decide +kernel
theorem dL_law_1221 : decode cL_law 1221 = .ok (.ireturn, 1) := by decide +kernel
theorem dL_law_1222 : decode cL_law 1222 = .ok (.aload_n 1, 1) := by decide +kernel
theorem dL_law_1223 : decode cL_law 1223 = .ok (.aload_n 0, 1) := by decide +kernel
theorem dL_law_1224 : decode cL_law 1224 = .ok (.iload 4, 2) := by decide +kernel
theorem dL_law_1226 : decode cL_law 1226 = .ok (.iconst 1, 1) := by decide +kernel
theorem dL_law_1227 : decode cL_law 1227 = .ok (.iadd, 1) := by decide +kernel
theorem dL_law_1228 : decode cL_law 1228 = .ok (.iaload, 1) := by decide +kernel
theorem dL_law_1229 : decode cL_law 1229 = .ok (.aload_n 0, 1) := by decide +kernel
theorem dL_law_1230 : decode cL_law 1230 = .ok (.iload 4, 2) := by decide +kernel
theorem dL_law_1232 : decode cL_law 1232 = .ok (.iconst 2, 1) := by decide +kernel
theorem dL_law_1233 : decode cL_law 1233 = .ok (.iadd, 1) := by decide +kernel
theorem dL_law_1234 : decode cL_law 1234 = .ok (.iaload, 1) := by decide +kernel
theorem dL_law_1235 : decode cL_law 1235 = .ok (.invokevirtual 144, 3) := by decide +kernel
theorem dL_law_1238 : decode cL_law 1238 = .ok (.aload_n 2, 1) := by decide +kernel
theorem dL_law_1239 : decode cL_law 1239 = .ok (.aload_n 0, 1) := by decide +kernel
theorem dL_law_1240 : decode cL_law 1240 = .ok (.iload 4, 2) := by decide +kernel
theorem dL_law_1242 : decode cL_law 1242 = .ok (.iconst 1, 1) := by decide +kernel
theorem dL_law_1243 : decode cL_law 1243 = .ok (.iadd, 1) := by decide +kernel
theorem dL_law_1244 : decode cL_law 1244 = .ok (.iaload, 1) := by decide +kernel
theorem dL_law_1245 : decode cL_law 1245 = .ok (.aload_n 0, 1) := by decide +kernel
theorem dL_law_1246 : decode cL_law 1246 = .ok (.iload 4, 2) := by decide +kernel
theorem dL_law_1248 : decode cL_law 1248 = .ok (.iconst 2, 1) := by decide +kernel
theorem dL_law_1249 : decode cL_law 1249 = .ok (.iadd, 1) := by decide +kernel
theorem dL_law_1250 : decode cL_law 1250 = .ok (.iaload, 1) := by decide +kernel
theorem dL_law_1251 : decode cL_law 1251 = .ok (.invokevirtual 147, 3) := by decide +kernel
theorem dL_law_1254 : decode cL_law 1254 = .ok (.if_icmp .eq 314, 3) := by decide +kernel
theorem dL_law_1257 : decode cL_law 1257 = .ok (.iconst 0, 1) := by decide +kernel
theorem dL_law_1258 : decode cL_law 1258 = .ok (.ireturn, 1) := by decide +kernel
theorem dL_law_1259 : decode cL_law 1259 = .ok (.aload_n 1, 1) := by decide +kernel
theorem dL_law_1260 : decode cL_law 1260 = .ok (.aload_n 0, 1) := by decide +kernel
theorem dL_law_1261 : decode cL_law 1261 = .ok (.iload 4, 2) := by decide +kernel
theorem dL_law_1263 : decode cL_law 1263 = .ok (.iconst 1, 1) := by decide +kernel
theorem dL_law_1264 : decode cL_law 1264 = .ok (.iadd, 1) := by decide +kernel
theorem dL_law_1265 : decode cL_law 1265 = .ok (.iaload, 1) := by decide +kernel
theorem dL_law_1266 : decode cL_law 1266 = .ok (.aload_n 0, 1) := by decide +kernel
theorem dL_law_1267 : decode cL_law 1267 = .ok (.iload 4, 2) := by decide +kernel
theorem dL_law_1269 : decode cL_law 1269 = .ok (.iconst 2, 1) := by decide +kernel
theorem dL_law_1270 : decode cL_law 1270 = .ok (.iadd, 1) := by decide +kernel
theorem dL_law_1271 : decode cL_law 1271 = .ok (.iaload, 1) := by decide +kernel
theorem dL_law_1272 : decode cL_law 1272 = .ok (.aload_n 0, 1) := by decide +kernel
theorem dL_law_1273 : decode cL_law 1273 = .ok (.iload 4, 2) := by decide +kernel
theorem dL_law_1275 : decode cL_law 1275 = .ok (.iconst 3, 1) := by decide +kernel
theorem dL_law_1276 : decode cL_law 1276 = .ok (.iadd, 1) := by decide +kernel
theorem dL_law_1277 : decode cL_law 1277 = .ok (.iaload, 1) := by decide +kernel
theorem dL_law_1278 : decode cL_law 1278 = .ok (.invokevirtual 148, 3) := by decide +kernel
theorem dL_law_1281 : decode cL_law 1281 = .ok (.aload_n 2, 1) := by decide +kernel
theorem dL_law_1282 : decode cL_law 1282 = .ok (.aload_n 0, 1) := by decide +kernel
theorem dL_law_1283 : decode cL_law 1283 = .ok (.iload 4, 2) := by decide +kernel
theorem dL_law_1285 : decode cL_law 1285 = .ok (.iconst 1, 1) := by decide +kernel
theorem dL_law_1286 : decode cL_law 1286 = .ok (.iadd, 1) := by decide +kernel
theorem dL_law_1287 : decode cL_law 1287 = .ok (.iaload, 1) := by decide +kernel
theorem dL_law_1288 : decode cL_law 1288 = .ok (.aload_n 0, 1) := by decide +kernel
theorem dL_law_1289 : decode cL_law 1289 = .ok (.iload 4, 2) := by decide +kernel
theorem dL_law_1291 : decode cL_law 1291 = .ok (.iconst 2, 1) := by decide +kernel
theorem dL_law_1292 : decode cL_law 1292 = .ok (.iadd, 1) := by decide +kernel
theorem dL_law_1293 : decode cL_law 1293 = .ok (.iaload, 1) := by decide +kernel
theorem dL_law_1294 : decode cL_law 1294 = .ok (.aload_n 0, 1) := by decide +kernel
theorem dL_law_1295 : decode cL_law 1295 = .ok (.iload 4, 2) := by decide +kernel
theorem dL_law_1297 : decode cL_law 1297 = .ok (.iconst 3, 1) := by decide +kernel
theorem dL_law_1298 : decode cL_law 1298 = .ok (.iadd, 1) := by decide +kernel
theorem dL_law_1299 : decode cL_law 1299 = .ok (.iaload, 1) := by decide +kernel
theorem dL_law_1300 : decode cL_law 1300 = .ok (.invokevirtual 151, 3) := by decide +kernel
theorem dL_law_1303 : decode cL_law 1303 = .ok (.if_icmp .eq 265, 3) := by decide +kernel
theorem dL_law_1306 : decode cL_law 1306 = .ok (.iconst 0, 1) := by decide +kernel
theorem dL_law_1307 : decode cL_law 1307 = .ok (.ireturn, 1) := by decide +kernel
theorem dL_law_1308 : decode cL_law 1308 = .ok (.aload_n 1, 1) := by decide +kernel
theorem dL_law_1309 : decode cL_law 1309 = .ok (.aload_n 0, 1) := by decide +kernel
theorem dL_law_1310 : decode cL_law 1310 = .ok (.iload 4, 2) := by decide +kernel
theorem dL_law_1312 : decode cL_law 1312 = .ok (.iconst 1, 1) := by decide +kernel
theorem dL_law_1313 : decode cL_law 1313 = .ok (.iadd, 1) := by decide +kernel
theorem dL_law_1314 : decode cL_law 1314 = .ok (.iaload, 1) := by decide +kernel
theorem dL_law_1315 : decode cL_law 1315 = .ok (.aload_n 0, 1) := by decide +kernel
theorem dL_law_1316 : decode cL_law 1316 = .ok (.iload 4, 2) := by decide +kernel
theorem dL_law_1318 : decode cL_law 1318 = .ok (.iconst 2, 1) := by decide +kernel
theorem dL_law_1319 : decode cL_law 1319 = .ok (.iadd, 1) := by decide +kernel
theorem dL_law_1320 : decode cL_law 1320 = .ok (.iaload, 1) := by decide +kernel
theorem dL_law_1321 : decode cL_law 1321 = .ok (.aload_n 0, 1) := by decide +kernel
theorem dL_law_1322 : decode cL_law 1322 = .ok (.iload 4, 2) := by decide +kernel
theorem dL_law_1324 : decode cL_law 1324 = .ok (.iconst 3, 1) := by decide +kernel
theorem dL_law_1325 : decode cL_law 1325 = .ok (.iadd, 1) := by decide +kernel
theorem dL_law_1326 : decode cL_law 1326 = .ok (.iaload, 1) := by decide +kernel
theorem dL_law_1327 : decode cL_law 1327 = .ok (.invokevirtual 152, 3) := by decide +kernel
theorem dL_law_1330 : decode cL_law 1330 = .ok (.aload_n 2, 1) := by decide +kernel
theorem dL_law_1331 : decode cL_law 1331 = .ok (.aload_n 0, 1) := by decide +kernel
theorem dL_law_1332 : decode cL_law 1332 = .ok (.iload 4, 2) := by decide +kernel
theorem dL_law_1334 : decode cL_law 1334 = .ok (.iconst 1, 1) := by decide +kernel
theorem dL_law_1335 : decode cL_law 1335 = .ok (.iadd, 1) := by decide +kernel
theorem dL_law_1336 : decode cL_law 1336 = .ok (.iaload, 1) := by decide +kernel
theorem dL_law_1337 : decode cL_law 1337 = .ok (.aload_n 0, 1) := by decide +kernel
theorem dL_law_1338 : decode cL_law 1338 = .ok (.iload 4, 2) := by decide +kernel
theorem dL_law_1340 : decode cL_law 1340 = .ok (.iconst 2, 1) := by decide +kernel
theorem dL_law_1341 : decode cL_law 1341 = .ok (.iadd, 1) := by decide +kernel
theorem dL_law_1342 : decode cL_law 1342 = .ok (.iaload, 1) := by decide +kernel
theorem dL_law_1343 : decode cL_law 1343 = .ok (.aload_n 0, 1) := by decide +kernel
theorem dL_law_1344 : decode cL_law 1344 = .ok (.iload 4, 2) := by decide +kernel
theorem dL_law_1346 : decode cL_law 1346 = .ok (.iconst 3, 1) := by decide +kernel
theorem dL_law_1347 : decode cL_law 1347 = .ok (.iadd, 1) := by decide +kernel
theorem dL_law_1348 : decode cL_law 1348 = .ok (.iaload, 1) := by decide +kernel
theorem dL_law_1349 : decode cL_law 1349 = .ok (.invokevirtual 155, 3) := by decide +kernel
theorem dL_law_1352 : decode cL_law 1352 = .ok (.if_icmp .eq 216, 3) := by decide +kernel
theorem dL_law_1355 : decode cL_law 1355 = .ok (.iconst 0, 1) := by decide +kernel
theorem dL_law_1356 : decode cL_law 1356 = .ok (.ireturn, 1) := by decide +kernel
theorem dL_law_1357 : decode cL_law 1357 = .ok (.aload_n 1, 1) := by decide +kernel
theorem dL_law_1358 : decode cL_law 1358 = .ok (.aload_n 0, 1) := by decide +kernel
theorem dL_law_1359 : decode cL_law 1359 = .ok (.iload 4, 2) := by decide +kernel
theorem dL_law_1361 : decode cL_law 1361 = .ok (.iconst 1, 1) := by decide +kernel
theorem dL_law_1362 : decode cL_law 1362 = .ok (.iadd, 1) := by decide +kernel
theorem dL_law_1363 : decode cL_law 1363 = .ok (.iaload, 1) := by decide +kernel
theorem dL_law_1364 : decode cL_law 1364 = .ok (.aload_n 0, 1) := by decide +kernel
theorem dL_law_1365 : decode cL_law 1365 = .ok (.iload 4, 2) := by decide +kernel
theorem dL_law_1367 : decode cL_law 1367 = .ok (.iconst 2, 1) := by decide +kernel
theorem dL_law_1368 : decode cL_law 1368 = .ok (.iadd, 1) := by decide +kernel
theorem dL_law_1369 : decode cL_law 1369 = .ok (.iaload, 1) := by decide +kernel
theorem dL_law_1370 : decode cL_law 1370 = .ok (.invokevirtual 156, 3) := by decide +kernel
theorem dL_law_1373 : decode cL_law 1373 = .ok (.aload_n 2, 1) := by decide +kernel
theorem dL_law_1374 : decode cL_law 1374 = .ok (.aload_n 0, 1) := by decide +kernel
theorem dL_law_1375 : decode cL_law 1375 = .ok (.iload 4, 2) := by decide +kernel
theorem dL_law_1377 : decode cL_law 1377 = .ok (.iconst 1, 1) := by decide +kernel
theorem dL_law_1378 : decode cL_law 1378 = .ok (.iadd, 1) := by decide +kernel
theorem dL_law_1379 : decode cL_law 1379 = .ok (.iaload, 1) := by decide +kernel
theorem dL_law_1380 : decode cL_law 1380 = .ok (.aload_n 0, 1) := by decide +kernel
theorem dL_law_1381 : decode cL_law 1381 = .ok (.iload 4, 2) := by decide +kernel
theorem dL_law_1383 : decode cL_law 1383 = .ok (.iconst 2, 1) := by decide +kernel
theorem dL_law_1384 : decode cL_law 1384 = .ok (.iadd, 1) := by decide +kernel
theorem dL_law_1385 : decode cL_law 1385 = .ok (.iaload, 1) := by decide +kernel
theorem dL_law_1386 : decode cL_law 1386 = .ok (.invokevirtual 159, 3) := by decide +kernel
theorem dL_law_1389 : decode cL_law 1389 = .ok (.if_icmp .eq 179, 3) := by decide +kernel
theorem dL_law_1392 : decode cL_law 1392 = .ok (.iconst 0, 1) := by decide +kernel
theorem dL_law_1393 : decode cL_law 1393 = .ok (.ireturn, 1) := by decide +kernel
theorem dL_law_1394 : decode cL_law 1394 = .ok (.aload_n 1, 1) := by decide +kernel
theorem dL_law_1395 : decode cL_law 1395 = .ok (.aload_n 0, 1) := by decide +kernel
theorem dL_law_1396 : decode cL_law 1396 = .ok (.iload 4, 2) := by decide +kernel
theorem dL_law_1398 : decode cL_law 1398 = .ok (.iconst 1, 1) := by decide +kernel
theorem dL_law_1399 : decode cL_law 1399 = .ok (.iadd, 1) := by decide +kernel
theorem dL_law_1400 : decode cL_law 1400 = .ok (.iaload, 1) := by decide +kernel
theorem dL_law_1401 : decode cL_law 1401 = .ok (.invokevirtual 160, 3) := by decide +kernel
theorem dL_law_1404 : decode cL_law 1404 = .ok (.aload_n 2, 1) := by decide +kernel
theorem dL_law_1405 : decode cL_law 1405 = .ok (.aload_n 0, 1) := by decide +kernel
theorem dL_law_1406 : decode cL_law 1406 = .ok (.iload 4, 2) := by decide +kernel
theorem dL_law_1408 : decode cL_law 1408 = .ok (.iconst 1, 1) := by decide +kernel
theorem dL_law_1409 : decode cL_law 1409 = .ok (.iadd, 1) := by decide +kernel
theorem dL_law_1410 : decode cL_law 1410 = .ok (.iaload, 1) := by decide +kernel
theorem dL_law_1411 : decode cL_law 1411 = .ok (.invokevirtual 163, 3) := by decide +kernel
theorem dL_law_1414 : decode cL_law 1414 = .ok (.if_icmp .eq 154, 3) := by decide +kernel
theorem dL_law_1417 : decode cL_law 1417 = .ok (.iconst 0, 1) := by decide +kernel
theorem dL_law_1418 : decode cL_law 1418 = .ok (.ireturn, 1) := by decide +kernel
theorem dL_law_1419 : decode cL_law 1419 = .ok (.aload_n 1, 1) := by decide +kernel
theorem dL_law_1420 : decode cL_law 1420 = .ok (.aload_n 0, 1) := by decide +kernel
theorem dL_law_1421 : decode cL_law 1421 = .ok (.iload 4, 2) := by decide +kernel
theorem dL_law_1423 : decode cL_law 1423 = .ok (.iconst 1, 1) := by decide +kernel
theorem dL_law_1424 : decode cL_law 1424 = .ok (.iadd, 1) := by decide +kernel
theorem dL_law_1425 : decode cL_law 1425 = .ok (.iaload, 1) := by decide +kernel
theorem dL_law_1426 : decode cL_law 1426 = .ok (.invokevirtual 164, 3) := by decide +kernel
theorem dL_law_1429 : decode cL_law 1429 = .ok (.aload_n 2, 1) := by decide +kernel
theorem dL_law_1430 : decode cL_law 1430 = .ok (.aload_n 0, 1) := by decide +kernel
theorem dL_law_1431 : decode cL_law 1431 = .ok (.iload 4, 2) := by decide +kernel
theorem dL_law_1433 : decode cL_law 1433 = .ok (.iconst 1, 1) := by decide +kernel
theorem dL_law_1434 : decode cL_law 1434 = .ok (.iadd, 1) := by decide +kernel
theorem dL_law_1435 : decode cL_law 1435 = .ok (.iaload, 1) := by decide +kernel
theorem dL_law_1436 : decode cL_law 1436 = .ok (.invokevirtual 167, 3) := by decide +kernel
theorem dL_law_1439 : decode cL_law 1439 = .ok (.if_icmp .eq 129, 3) := by decide +kernel
theorem dL_law_1442 : decode cL_law 1442 = .ok (.iconst 0, 1) := by decide +kernel
theorem dL_law_1443 : decode cL_law 1443 = .ok (.ireturn, 1) := by decide +kernel
theorem dL_law_1444 : decode cL_law 1444 = .ok (.aload_n 1, 1) := by decide +kernel
theorem dL_law_1445 : decode cL_law 1445 = .ok (.aload_n 0, 1) := by decide +kernel
theorem dL_law_1446 : decode cL_law 1446 = .ok (.iload 4, 2) := by decide +kernel
theorem dL_law_1448 : decode cL_law 1448 = .ok (.iconst 1, 1) := by decide +kernel
theorem dL_law_1449 : decode cL_law 1449 = .ok (.iadd, 1) := by decide +kernel
theorem dL_law_1450 : decode cL_law 1450 = .ok (.iaload, 1) := by decide +kernel
theorem dL_law_1451 : decode cL_law 1451 = .ok (.aload_n 0, 1) := by decide +kernel
theorem dL_law_1452 : decode cL_law 1452 = .ok (.iload 4, 2) := by decide +kernel
theorem dL_law_1454 : decode cL_law 1454 = .ok (.iconst 2, 1) := by decide +kernel
theorem dL_law_1455 : decode cL_law 1455 = .ok (.iadd, 1) := by decide +kernel
theorem dL_law_1456 : decode cL_law 1456 = .ok (.iaload, 1) := by decide +kernel
theorem dL_law_1457 : decode cL_law 1457 = .ok (.invokevirtual 168, 3) := by decide +kernel
theorem dL_law_1460 : decode cL_law 1460 = .ok (.aload_n 2, 1) := by decide +kernel
theorem dL_law_1461 : decode cL_law 1461 = .ok (.aload_n 0, 1) := by decide +kernel
theorem dL_law_1462 : decode cL_law 1462 = .ok (.iload 4, 2) := by decide +kernel
theorem dL_law_1464 : decode cL_law 1464 = .ok (.iconst 1, 1) := by decide +kernel
theorem dL_law_1465 : decode cL_law 1465 = .ok (.iadd, 1) := by decide +kernel
theorem dL_law_1466 : decode cL_law 1466 = .ok (.iaload, 1) := by decide +kernel
theorem dL_law_1467 : decode cL_law 1467 = .ok (.aload_n 0, 1) := by decide +kernel
theorem dL_law_1468 : decode cL_law 1468 = .ok (.iload 4, 2) := by decide +kernel
theorem dL_law_1470 : decode cL_law 1470 = .ok (.iconst 2, 1) := by decide +kernel
theorem dL_law_1471 : decode cL_law 1471 = .ok (.iadd, 1) := by decide +kernel
theorem dL_law_1472 : decode cL_law 1472 = .ok (.iaload, 1) := by decide +kernel
theorem dL_law_1473 : decode cL_law 1473 = .ok (.invokevirtual 171, 3) := by decide +kernel
theorem dL_law_1476 : decode cL_law 1476 = .ok (.if_icmp .eq 92, 3) := by decide +kernel
theorem dL_law_1479 : decode cL_law 1479 = .ok (.iconst 0, 1) := by decide +kernel
theorem dL_law_1480 : decode cL_law 1480 = .ok (.ireturn, 1) := by decide +kernel
theorem dL_law_1481 : decode cL_law 1481 = .ok (.aload_n 1, 1) := by decide +kernel
theorem dL_law_1482 : decode cL_law 1482 = .ok (.aload_n 0, 1) := by decide +kernel
theorem dL_law_1483 : decode cL_law 1483 = .ok (.iload 4, 2) := by decide +kernel
theorem dL_law_1485 : decode cL_law 1485 = .ok (.iconst 1, 1) := by decide +kernel
theorem dL_law_1486 : decode cL_law 1486 = .ok (.iadd, 1) := by decide +kernel
theorem dL_law_1487 : decode cL_law 1487 = .ok (.iaload, 1) := by decide +kernel
theorem dL_law_1488 : decode cL_law 1488 = .ok (.aload_n 0, 1) := by decide +kernel
theorem dL_law_1489 : decode cL_law 1489 = .ok (.iload 4, 2) := by decide +kernel
theorem dL_law_1491 : decode cL_law 1491 = .ok (.iconst 2, 1) := by decide +kernel
theorem dL_law_1492 : decode cL_law 1492 = .ok (.iadd, 1) := by decide +kernel
theorem dL_law_1493 : decode cL_law 1493 = .ok (.iaload, 1) := by decide +kernel
theorem dL_law_1494 : decode cL_law 1494 = .ok (.invokevirtual 172, 3) := by decide +kernel
theorem dL_law_1497 : decode cL_law 1497 = .ok (.aload_n 2, 1) := by decide +kernel
theorem dL_law_1498 : decode cL_law 1498 = .ok (.aload_n 0, 1) := by decide +kernel
theorem dL_law_1499 : decode cL_law 1499 = .ok (.iload 4, 2) := by decide +kernel
theorem dL_law_1501 : decode cL_law 1501 = .ok (.iconst 1, 1) := by decide +kernel
theorem dL_law_1502 : decode cL_law 1502 = .ok (.iadd, 1) := by decide +kernel
theorem dL_law_1503 : decode cL_law 1503 = .ok (.iaload, 1) := by decide +kernel
theorem dL_law_1504 : decode cL_law 1504 = .ok (.aload_n 0, 1) := by decide +kernel
theorem dL_law_1505 : decode cL_law 1505 = .ok (.iload 4, 2) := by decide +kernel
theorem dL_law_1507 : decode cL_law 1507 = .ok (.iconst 2, 1) := by decide +kernel
theorem dL_law_1508 : decode cL_law 1508 = .ok (.iadd, 1) := by decide +kernel
theorem dL_law_1509 : decode cL_law 1509 = .ok (.iaload, 1) := by decide +kernel
theorem dL_law_1510 : decode cL_law 1510 = .ok (.invokevirtual 175, 3) := by decide +kernel
theorem dL_law_1513 : decode cL_law 1513 = .ok (.if_icmp .eq 55, 3) := by decide +kernel
theorem dL_law_1516 : decode cL_law 1516 = .ok (.iconst 0, 1) := by decide +kernel
theorem dL_law_1517 : decode cL_law 1517 = .ok (.ireturn, 1) := by decide +kernel
theorem dL_law_1518 : decode cL_law 1518 = .ok (.aload_n 1, 1) := by decide +kernel
theorem dL_law_1519 : decode cL_law 1519 = .ok (.aload_n 0, 1) := by decide +kernel
theorem dL_law_1520 : decode cL_law 1520 = .ok (.iload 4, 2) := by decide +kernel
theorem dL_law_1522 : decode cL_law 1522 = .ok (.iconst 1, 1) := by decide +kernel
theorem dL_law_1523 : decode cL_law 1523 = .ok (.iadd, 1) := by decide +kernel
theorem dL_law_1524 : decode cL_law 1524 = .ok (.iaload, 1) := by decide +kernel
theorem dL_law_1525 : decode cL_law 1525 = .ok (.invokevirtual 176, 3) := by decide +kernel
theorem dL_law_1528 : decode cL_law 1528 = .ok (.aload_n 2, 1) := by decide +kernel
theorem dL_law_1529 : decode cL_law 1529 = .ok (.aload_n 0, 1) := by decide +kernel
theorem dL_law_1530 : decode cL_law 1530 = .ok (.iload 4, 2) := by decide +kernel
theorem dL_law_1532 : decode cL_law 1532 = .ok (.iconst 1, 1) := by decide +kernel
theorem dL_law_1533 : decode cL_law 1533 = .ok (.iadd, 1) := by decide +kernel
theorem dL_law_1534 : decode cL_law 1534 = .ok (.iaload, 1) := by decide +kernel
theorem dL_law_1535 : decode cL_law 1535 = .ok (.invokevirtual 179, 3) := by decide +kernel
theorem dL_law_1538 : decode cL_law 1538 = .ok (.if_icmp .eq 30, 3) := by decide +kernel
theorem dL_law_1541 : decode cL_law 1541 = .ok (.iconst 0, 1) := by decide +kernel
theorem dL_law_1542 : decode cL_law 1542 = .ok (.ireturn, 1) := by decide +kernel
theorem dL_law_1543 : decode cL_law 1543 = .ok (.aload_n 1, 1) := by decide +kernel
theorem dL_law_1544 : decode cL_law 1544 = .ok (.aload_n 0, 1) := by decide +kernel
theorem dL_law_1545 : decode cL_law 1545 = .ok (.iload 4, 2) := by decide +kernel
theorem dL_law_1547 : decode cL_law 1547 = .ok (.iconst 1, 1) := by decide +kernel
theorem dL_law_1548 : decode cL_law 1548 = .ok (.iadd, 1) := by decide +kernel
theorem dL_law_1549 : decode cL_law 1549 = .ok (.iaload, 1) := by decide +kernel
theorem dL_law_1550 : decode cL_law 1550 = .ok (.invokevirtual 180, 3) := by decide +kernel
theorem dL_law_1553 : decode cL_law 1553 = .ok (.aload_n 2, 1) := by decide +kernel
theorem dL_law_1554 : decode cL_law 1554 = .ok (.aload_n 0, 1) := by decide +kernel
theorem dL_law_1555 : decode cL_law 1555 = .ok (.iload 4, 2) := by decide +kernel
theorem dL_law_1557 : decode cL_law 1557 = .ok (.iconst 1, 1) := by decide +kernel
theorem dL_law_1558 : decode cL_law 1558 = .ok (.iadd, 1) := by decide +kernel
theorem dL_law_1559 : decode cL_law 1559 = .ok (.iaload, 1) := by decide +kernel
theorem dL_law_1560 : decode cL_law 1560 = .ok (.invokevirtual 183, 3) := by decide +kernel
theorem dL_law_1563 : decode cL_law 1563 = .ok (.if_icmp .eq 5, 3) := by decide +kernel
theorem dL_law_1566 : decode cL_law 1566 = .ok (.iconst 0, 1) := by decide +kernel
theorem dL_law_1567 : decode cL_law 1567 = .ok (.ireturn, 1) := by decide +kernel
theorem dL_law_1568 : decode cL_law 1568 = .ok (.iinc 4 6, 3) := by decide +kernel
theorem dL_law_1571 : decode cL_law 1571 = .ok (.goto (-1548), 3) := by decide +kernel
theorem dL_law_1574 : decode cL_law 1574 = .ok (.iconst 1, 1) := by decide +kernel
theorem dL_law_1575 : decode cL_law 1575 = .ok (.ireturn, 1) := by decide +kernel
