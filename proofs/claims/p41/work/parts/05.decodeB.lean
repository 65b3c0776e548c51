theorem dX7_keepSharesBefore_42 : decode cX7_keepSharesBefore 42 = .ok (.getfield 48, 3) := by decide +kernel
theorem dX7_keepSharesBefore_45 : decode cX7_keepSharesBefore 45 = .ok (.getfield 225, 3) := by decide +kernel
theorem dX7_keepSharesBefore_48 : decode cX7_keepSharesBefore 48 = .ok (.iload_n 2, 1) := by decide +kernel
theorem dX7_keepSharesBefore_49 : decode cX7_keepSharesBefore 49 = .ok (.iaload, 1) := by decide +kernel
theorem dX7_keepSharesBefore_50 : decode cX7_keepSharesBefore 50 = .ok (.iastore, 1) := by decide +kernel
theorem dX7_keepSharesBefore_51 : decode cX7_keepSharesBefore 51 = .ok (.iinc 2 1, 3) := by decide +kernel
theorem dX7_keepSharesBefore_54 : decode cX7_keepSharesBefore 54 = .ok (.goto (-29), 3) := by decide +kernel
theorem dX7_keepSharesBefore_57 : decode cX7_keepSharesBefore 57 = .ok (.return_, 1) := by decide +kernel
theorem dX7_fly_0 : decode cX7_fly 0 = .ok (.aload_n 0, 1) := by decide +kernel
theorem dX7_fly_1 : decode cX7_fly 1 = .ok (.iload_n 1, 1) := by decide +kernel
theorem dX7_fly_2 : decode cX7_fly 2 = .ok (.iload_n 2, 1) := by decide +kernel
theorem dX7_fly_3 : decode cX7_fly 3 = .ok (.invokevirtual 197, 3) := by decide +kernel
theorem dX7_fly_6 : decode cX7_fly 6 = .ok (.ifCond .ne 5, 3) := by decide +kernel
theorem dX7_fly_9 : decode cX7_fly 9 = .ok (.iconst (-1), 1) := by decide +kernel
theorem dX7_fly_10 : decode cX7_fly 10 = .ok (.ireturn, 1) := by decide +kernel
theorem dX7_fly_11 : decode cX7_fly 11 = .ok (.iload_n 2, 1) := by decide +kernel
theorem dX7_fly_12 : decode cX7_fly 12 = .ok (.aload_n 0, 1) := by decide +kernel
theorem dX7_fly_13 : decode cX7_fly 13 = .ok (.getfield 39, 3) := by decide +kernel
theorem dX7_fly_16 : decode cX7_fly 16 = .ok (.getfield 175, 3) := by decide +kernel
theorem dX7_fly_19 : decode cX7_fly 19 = .ok (.iload_n 1, 1) := by decide +kernel
theorem dX7_fly_20 : decode cX7_fly 20 = .ok (.iaload, 1) := by decide +kernel
theorem dX7_fly_21 : decode cX7_fly 21 = .ok (.if_icmp .ge 6, 3) := by decide +kernel
theorem dX7_fly_24 : decode cX7_fly 24 = .ok (.bipush (-2), 2) := by decide +kernel
theorem dX7_fly_26 : decode cX7_fly 26 = .ok (.ireturn, 1) := by decide +kernel
theorem dX7_fly_27 : decode cX7_fly 27 = .ok (.aload_n 0, 1) := by decide +kernel
theorem dX7_fly_28 : decode cX7_fly 28 = .ok (.getfield 39, 3) := by decide +kernel
theorem dX7_fly_31 : decode cX7_fly 31 = .ok (.getfield 181, 3) := by decide +kernel
theorem dX7_fly_34 : decode cX7_fly 34 = .ok (.iload_n 1, 1) := by decide +kernel
theorem dX7_fly_35 : decode cX7_fly 35 = .ok (.baload, 1) := by decide +kernel
theorem dX7_fly_36 : decode cX7_fly 36 = .ok (.ifCond .eq 6, 3) := by decide +kernel
theorem dX7_fly_39 : decode cX7_fly 39 = .ok (.bipush (-3), 2) := by decide +kernel
theorem dX7_fly_41 : decode cX7_fly 41 = .ok (.ireturn, 1) := by decide +kernel
theorem dX7_fly_42 : decode cX7_fly 42 = .ok (.iload_n 2, 1) := by decide +kernel
theorem dX7_fly_43 : decode cX7_fly 43 = .ok (.aload_n 0, 1) := by decide +kernel
theorem dX7_fly_44 : decode cX7_fly 44 = .ok (.getfield 39, 3) := by decide +kernel
theorem dX7_fly_47 : decode cX7_fly 47 = .ok (.getfield 175, 3) := by decide +kernel
theorem dX7_fly_50 : decode cX7_fly 50 = .ok (.iload_n 1, 1) := by decide +kernel
theorem dX7_fly_51 : decode cX7_fly 51 = .ok (.iaload, 1) := by decide +kernel
theorem dX7_fly_52 : decode cX7_fly 52 = .ok (.if_icmp .le 6, 3) := by decide +kernel
theorem dX7_fly_55 : decode cX7_fly 55 = .ok (.bipush (-4), 2) := by decide +kernel
theorem dX7_fly_57 : decode cX7_fly 57 = .ok (.ireturn, 1) := by decide +kernel
theorem dX7_fly_58 : decode cX7_fly 58 = .ok (.aload_n 0, 1) := by decide +kernel
theorem dX7_fly_59 : decode cX7_fly 59 = .ok (.iload_n 1, 1) := by decide +kernel
theorem dX7_fly_60 : decode cX7_fly 60 = .ok (.iload_n 2, 1) := by decide +kernel
theorem dX7_fly_61 : decode cX7_fly 61 = .ok (.invokevirtual 230, 3) := by decide +kernel
theorem dX7_fly_64 : decode cX7_fly 64 = .ok (.istore_n 3, 1) := by decide +kernel
theorem dX7_fly_65 : decode cX7_fly 65 = .ok (.aload_n 0, 1) := by decide +kernel
theorem dX7_fly_66 : decode cX7_fly 66 = .ok (.getfield 39, 3) := by decide +kernel
theorem dX7_fly_69 : decode cX7_fly 69 = .ok (.iload_n 1, 1) := by decide +kernel
theorem dX7_fly_70 : decode cX7_fly 70 = .ok (.iload_n 3, 1) := by decide +kernel
theorem dX7_fly_71 : decode cX7_fly 71 = .ok (.invokevirtual 261, 3) := by decide +kernel
theorem dX7_fly_74 : decode cX7_fly 74 = .ok (.iload_n 3, 1) := by decide +kernel
theorem dX7_fly_75 : decode cX7_fly 75 = .ok (.ireturn, 1) := by decide +kernel
theorem dX7_endorsingRefused_0 : decode cX7_endorsingRefused 0 = .ok (.aload_n 0, 1) := by decide +kernel
theorem dX7_endorsingRefused_1 : decode cX7_endorsingRefused 1 = .ok (.iload_n 1, 1) := by decide +kernel
theorem dX7_endorsingRefused_2 : decode cX7_endorsingRefused 2 = .ok (.iload_n 2, 1) := by decide +kernel
theorem dX7_endorsingRefused_3 : decode cX7_endorsingRefused 3 = .ok (.invokevirtual 197, 3) := by decide +kernel
theorem dX7_endorsingRefused_6 : decode cX7_endorsingRefused 6 = .ok (.ifCond .eq 11, 3) := by decide +kernel
theorem dX7_endorsingRefused_9 : decode cX7_endorsingRefused 9 = .ok (.aload_n 0, 1) := by decide +kernel
theorem dX7_endorsingRefused_10 : decode cX7_endorsingRefused 10 = .ok (.iload_n 3, 1) := by decide +kernel
theorem dX7_endorsingRefused_11 : decode cX7_endorsingRefused 11 = .ok (.invokevirtual 130, 3) := by decide +kernel
theorem dX7_endorsingRefused_14 : decode cX7_endorsingRefused 14 = .ok (.ifCond .ne 5, 3) := by decide +kernel
theorem dX7_endorsingRefused_17 : decode cX7_endorsingRefused 17 = .ok (.iconst (-1), 1) := by decide +kernel
theorem dX7_endorsingRefused_18 : decode cX7_endorsingRefused 18 = .ok (.ireturn, 1) := by decide +kernel
theorem dX7_endorsingRefused_19 : decode cX7_endorsingRefused 19 = .ok (.iload_n 2, 1) := by decide +kernel
theorem dX7_endorsingRefused_20 : decode cX7_endorsingRefused 20 = .ok (.aload_n 0, 1) := by decide +kernel
theorem dX7_endorsingRefused_21 : decode cX7_endorsingRefused 21 = .ok (.getfield 39, 3) := by decide +kernel
theorem dX7_endorsingRefused_24 : decode cX7_endorsingRefused 24 = .ok (.getfield 175, 3) := by decide +kernel
theorem dX7_endorsingRefused_27 : decode cX7_endorsingRefused 27 = .ok (.iload_n 1, 1) := by decide +kernel
theorem dX7_endorsingRefused_28 : decode cX7_endorsingRefused 28 = .ok (.iaload, 1) := by decide +kernel
theorem dX7_endorsingRefused_29 : decode cX7_endorsingRefused 29 = .ok (.if_icmp .ge 6, 3) := by decide +kernel
theorem dX7_endorsingRefused_32 : decode cX7_endorsingRefused 32 = .ok (.bipush (-2), 2) := by decide +kernel
theorem dX7_endorsingRefused_34 : decode cX7_endorsingRefused 34 = .ok (.ireturn, 1) := by decide +kernel
theorem dX7_endorsingRefused_35 : decode cX7_endorsingRefused 35 = .ok (.aload_n 0, 1) := by decide +kernel
theorem dX7_endorsingRefused_36 : decode cX7_endorsingRefused 36 = .ok (.getfield 39, 3) := by decide +kernel
theorem dX7_endorsingRefused_39 : decode cX7_endorsingRefused 39 = .ok (.getfield 181, 3) := by decide +kernel
theorem dX7_endorsingRefused_42 : decode cX7_endorsingRefused 42 = .ok (.iload_n 1, 1) := by decide +kernel
theorem dX7_endorsingRefused_43 : decode cX7_endorsingRefused 43 = .ok (.baload, 1) := by decide +kernel
theorem dX7_endorsingRefused_44 : decode cX7_endorsingRefused 44 = .ok (.ifCond .eq 8, 3) := by decide +kernel
theorem dX7_endorsingRefused_47 : decode cX7_endorsingRefused 47 = .ok (.bipush (-3), 2) := by decide +kernel
theorem dX7_endorsingRefused_49 : decode cX7_endorsingRefused 49 = .ok (.goto 4, 3) := by decide +kernel
theorem dX7_endorsingRefused_52 : decode cX7_endorsingRefused 52 = .ok (.iconst 0, 1) := by decide +kernel
theorem dX7_endorsingRefused_53 : decode cX7_endorsingRefused 53 = .ok (.ireturn, 1) := by decide +kernel
theorem dX7_endorse_0 : decode cX7_endorse 0 = .ok (.aload_n 0, 1) := by decide +kernel
theorem dX7_endorse_1 : decode cX7_endorse 1 = .ok (.iload_n 1, 1) := by decide +kernel
theorem dX7_endorse_2 : decode cX7_endorse 2 = .ok (.iload_n 2, 1) := by decide +kernel
theorem dX7_endorse_3 : decode cX7_endorse 3 = .ok (.iload_n 3, 1) := by decide +kernel
theorem dX7_endorse_4 : decode cX7_endorse 4 = .ok (.invokevirtual 264, 3) := by decide +kernel
theorem dX7_endorse_7 : decode cX7_endorse 7 = .ok (.istore 4, 2) := by decide +kernel
theorem dX7_endorse_9 : decode cX7_endorse 9 = .ok (.iload 4, 2) := by decide +kernel
theorem dX7_endorse_11 : decode cX7_endorse 11 = .ok (.ifCond .eq 6, 3) := by decide +kernel
theorem dX7_endorse_14 : decode cX7_endorse 14 = .ok (.iload 4, 2) := by decide +kernel
theorem dX7_endorse_16 : decode cX7_endorse 16 = .ok (.ireturn, 1) := by decide +kernel
theorem dX7_endorse_17 : decode cX7_endorse 17 = .ok (.aload_n 0, 1) := by decide +kernel
theorem dX7_endorse_18 : decode cX7_endorse 18 = .ok (.getfield 39, 3) := by decide +kernel
theorem dX7_endorse_21 : decode cX7_endorse 21 = .ok (.getfield 200, 3) := by decide +kernel
theorem dX7_endorse_24 : decode cX7_endorse 24 = .ok (.iload_n 1, 1) := by decide +kernel
theorem dX7_endorse_25 : decode cX7_endorse 25 = .ok (.aaload, 1) := by decide +kernel
theorem dX7_endorse_26 : decode cX7_endorse 26 = .ok (.iload_n 2, 1) := by decide +kernel
theorem dX7_endorse_27 : decode cX7_endorse 27 = .ok (.iaload, 1) := by decide +kernel
theorem dX7_endorse_28 : decode cX7_endorse 28 = .ok (.iload_n 3, 1) := by decide +kernel
theorem dX7_endorse_29 : decode cX7_endorse 29 = .ok (.if_icmp .ne 6, 3) := by decide +kernel
theorem dX7_endorse_32 : decode cX7_endorse 32 = .ok (.bipush (-4), 2) := by decide +kernel
theorem dX7_endorse_34 : decode cX7_endorse 34 = .ok (.ireturn, 1) := by decide +kernel
theorem dX7_endorse_35 : decode cX7_endorse 35 = .ok (.aload_n 0, 1) := by decide +kernel
theorem dX7_endorse_36 : decode cX7_endorse 36 = .ok (.getfield 39, 3) := by decide +kernel
theorem dX7_endorse_39 : decode cX7_endorse 39 = .ok (.iload_n 1, 1) := by decide +kernel
theorem dX7_endorse_40 : decode cX7_endorse 40 = .ok (.iload_n 2, 1) := by decide +kernel
theorem dX7_endorse_41 : decode cX7_endorse 41 = .ok (.iload_n 3, 1) := by decide +kernel
theorem dX7_endorse_42 : decode cX7_endorse 42 = .ok (.invokevirtual 267, 3) := by decide +kernel
theorem dX7_endorse_45 : decode cX7_endorse 45 = .ok (.aload_n 0, 1) := by decide +kernel
theorem dX7_endorse_46 : decode cX7_endorse 46 = .ok (.iload_n 1, 1) := by decide +kernel
theorem dX7_endorse_47 : decode cX7_endorse 47 = .ok (.iload_n 2, 1) := by decide +kernel
theorem dX7_endorse_48 : decode cX7_endorse 48 = .ok (.invokevirtual 230, 3) := by decide +kernel
theorem dX7_endorse_51 : decode cX7_endorse 51 = .ok (.ireturn, 1) := by decide +kernel
theorem dX8_init_0 : decode cX8_init 0 = .ok (.aload_n 0, 1) := by decide +kernel
theorem dX8_init_1 : decode cX8_init 1 = .ok (.invokespecial 1, 3) := by decide +kernel
theorem dX8_init_4 : decode cX8_init 4 = .ok (.aload_n 0, 1) := by decide +kernel
theorem dX8_init_5 : decode cX8_init 5 = .ok (.lconst 1, 1) := by decide +kernel
theorem dX8_init_6 : decode cX8_init 6 = .ok (.putfield 7, 3) := by decide +kernel
theorem dX8_init_9 : decode cX8_init 9 = .ok (.aload_n 0, 1) := by decide +kernel
theorem dX8_init_10 : decode cX8_init 10 = .ok (.iload_n 1, 1) := by decide +kernel
theorem dX8_init_11 : decode cX8_init 11 = .ok (.newarray .long, 2) := by decide +kernel
theorem dX8_init_13 : decode cX8_init 13 = .ok (.putfield 13, 3) := by decide +kernel
theorem dX8_init_16 : decode cX8_init 16 = .ok (.aload_n 0, 1) := by decide +kernel
theorem dX8_init_17 : decode cX8_init 17 = .ok (.iload_n 1, 1) := by decide +kernel
theorem dX8_init_18 : decode cX8_init 18 = .ok (.newarray .long, 2) := by decide +kernel
theorem dX8_init_20 : decode cX8_init 20 = .ok (.putfield 17, 3) := by decide +kernel
theorem dX8_init_23 : decode cX8_init 23 = .ok (.aload_n 0, 1) := by decide +kernel
theorem dX8_init_24 : decode cX8_init 24 = .ok (.iload_n 1, 1) := by decide +kernel
theorem dX8_init_25 : decode cX8_init 25 = .ok (.newarray .int, 2) := by decide +kernel
theorem dX8_init_27 : decode cX8_init 27 = .ok (.putfield 20, 3) := by decide +kernel
theorem dX8_init_30 : decode cX8_init 30 = .ok (.aload_n 0, 1) := by decide +kernel
theorem dX8_init_31 : decode cX8_init 31 = .ok (.iload_n 1, 1) := by decide +kernel
theorem dX8_init_32 : decode cX8_init 32 = .ok (.newarray .int, 2) := by decide +kernel
theorem dX8_init_34 : decode cX8_init 34 = .ok (.putfield 24, 3) := by decide +kernel
theorem dX8_init_37 : decode cX8_init 37 = .ok (.return_, 1) := by decide +kernel
theorem dX8_parts_0 : decode cX8_parts 0 = .ok (.aload_n 0, 1) := by decide +kernel
theorem dX8_parts_1 : decode cX8_parts 1 = .ok (.lconst 0, 1) := by decide +kernel
theorem dX8_parts_2 : decode cX8_parts 2 = .ok (.putfield 7, 3) := by decide +kernel
theorem dX8_parts_5 : decode cX8_parts 5 = .ok (.iconst 0, 1) := by decide +kernel
theorem dX8_parts_6 : decode cX8_parts 6 = .ok (.istore 5, 2) := by decide +kernel
theorem dX8_parts_8 : decode cX8_parts 8 = .ok (.iload 5, 2) := by decide +kernel
theorem dX8_parts_10 : decode cX8_parts 10 = .ok (.aload_n 3, 1) := by decide +kernel
theorem dX8_parts_11 : decode cX8_parts 11 = .ok (.arraylength, 1) := by decide +kernel
theorem dX8_parts_12 : decode cX8_parts 12 = .ok (.if_icmp .ge 34, 3) := by decide +kernel
theorem dX8_parts_15 : decode cX8_parts 15 = .ok (.aload_n 0, 1) := by decide +kernel
theorem dX8_parts_16 : decode cX8_parts 16 = .ok (.dup, 1) := by decide +kernel
theorem dX8_parts_17 : decode cX8_parts 17 = .ok (.getfield 7, 3) := by decide +kernel
theorem dX8_parts_20 : decode cX8_parts 20 = .ok (.aload 4, 2) := by decide +kernel
theorem dX8_parts_22 : decode cX8_parts 22 = .ok (.iload 5, 2) := by decide +kernel
theorem dX8_parts_24 : decode cX8_parts 24 = .ok (.baload, 1) := by decide +kernel
theorem dX8_parts_25 : decode cX8_parts 25 = .ok (.ifCond .eq 10, 3) := by decide +kernel
theorem dX8_parts_28 : decode cX8_parts 28 = .ok (.aload_n 3, 1) := by decide +kernel
theorem dX8_parts_29 : decode cX8_parts 29 = .ok (.iload 5, 2) := by decide +kernel
theorem dX8_parts_31 : decode cX8_parts 31 = .ok (.laload, 1) := by decide +kernel
theorem dX8_parts_32 : decode cX8_parts 32 = .ok (.goto 4, 3) := by decide +kernel
theorem dX8_parts_35 : decode cX8_parts 35 = .ok (.lconst 0, 1) := by decide +kernel
theorem dX8_parts_36 : decode cX8_parts 36 = .ok (.ladd, 1) := by decide +kernel
theorem dX8_parts_37 : decode cX8_parts 37 = .ok (.putfield 7, 3) := by decide +kernel
theorem dX8_parts_40 : decode cX8_parts 40 = .ok (.iinc 5 1, 3) := by decide +kernel
theorem dX8_parts_43 : decode cX8_parts 43 = .ok (.goto (-35), 3) := by decide +kernel
theorem dX8_parts_46 : decode cX8_parts 46 = .ok (.iconst 0, 1) := by decide +kernel
theorem dX8_parts_47 : decode cX8_parts 47 = .ok (.istore 5, 2) := by decide +kernel
theorem dX8_parts_49 : decode cX8_parts 49 = .ok (.iload 5, 2) := by decide +kernel
theorem dX8_parts_51 : decode cX8_parts 51 = .ok (.aload_n 3, 1) := by decide +kernel
theorem dX8_parts_52 : decode cX8_parts 52 = .ok (.arraylength, 1) := by decide +kernel
theorem dX8_parts_53 : decode cX8_parts 53 = .ok (.if_icmp .ge 34, 3) := by decide +kernel
theorem dX8_parts_56 : decode cX8_parts 56 = .ok (.aload_n 0, 1) := by decide +kernel
theorem dX8_parts_57 : decode cX8_parts 57 = .ok (.getfield 17, 3) := by decide +kernel
theorem dX8_parts_60 : decode cX8_parts 60 = .ok (.iload 5, 2) := by decide +kernel
theorem dX8_parts_62 : decode cX8_parts 62 = .ok (.aload 4, 2) := by decide +kernel
theorem dX8_parts_64 : decode cX8_parts 64 = .ok (.iload 5, 2) := by decide +kernel
theorem dX8_parts_66 : decode cX8_parts 66 = .ok (.baload, 1) := by decide +kernel
theorem dX8_parts_67 : decode cX8_parts 67 = .ok (.ifCond .eq 12, 3) := by decide +kernel
theorem dX8_parts_70 : decode cX8_parts 70 = .ok (.lload_n 1, 1) := by decide +kernel
theorem dX8_parts_71 : decode cX8_parts 71 = .ok (.aload_n 3, 1) := by decide +kernel
theorem dX8_parts_72 : decode cX8_parts 72 = .ok (.iload 5, 2) := by decide +kernel
theorem dX8_parts_74 : decode cX8_parts 74 = .ok (.laload, 1) := by decide +kernel
theorem dX8_parts_75 : decode cX8_parts 75 = .ok (.lmul, 1) := by decide +kernel
theorem dX8_parts_76 : decode cX8_parts 76 = .ok (.goto 4, 3) := by decide +kernel
theorem dX8_parts_79 : decode cX8_parts 79 = .ok (.lconst 0, 1) := by decide +kernel
theorem dX8_parts_80 : decode cX8_parts 80 = .ok (.lastore, 1) := by decide +kernel
theorem dX8_parts_81 : decode cX8_parts 81 = .ok (.iinc 5 1, 3) := by decide +kernel
theorem dX8_parts_84 : decode cX8_parts 84 = .ok (.goto (-35), 3) := by decide +kernel
theorem dX8_parts_87 : decode cX8_parts 87 = .ok (.return_, 1) := by decide +kernel
theorem dX8_cuts_0 : decode cX8_cuts 0 = .ok (.lload_n 2, 1) := by decide +kernel
theorem dX8_cuts_1 : decode cX8_cuts 1 = .ok (.lstore 4, 2) := by decide +kernel
theorem dX8_cuts_3 : decode cX8_cuts 3 = .ok (.aload_n 0, 1) := by decide +kernel
theorem dX8_cuts_4 : decode cX8_cuts 4 = .ok (.getfield 13, 3) := by decide +kernel
theorem dX8_cuts_7 : decode cX8_cuts 7 = .ok (.arraylength, 1) := by decide +kernel
theorem dX8_cuts_8 : decode cX8_cuts 8 = .ok (.newarray .long, 2) := by decide +kernel
theorem dX8_cuts_10 : decode cX8_cuts 10 = .ok (.astore 6, 2) := by decide +kernel
theorem dX8_cuts_12 : decode cX8_cuts 12 = .ok (.iconst 0, 1) := by decide +kernel
theorem dX8_cuts_13 : decode cX8_cuts 13 = .ok (.istore 7, 2) := by decide +kernel
theorem dX8_cuts_15 : decode cX8_cuts 15 = .ok (.iload 7, 2) := by decide +kernel
theorem dX8_cuts_17 : decode cX8_cuts 17 = .ok (.aload_n 0, 1) := by decide +kernel
theorem dX8_cuts_18 : decode cX8_cuts 18 = .ok (.getfield 13, 3) := by decide +kernel
theorem dX8_cuts_21 : decode cX8_cuts 21 = .ok (.arraylength, 1) := by decide +kernel
theorem dX8_cuts_22 : decode cX8_cuts 22 = .ok (.if_icmp .ge 77, 3) := by decide +kernel
theorem dX8_cuts_25 : decode cX8_cuts 25 = .ok (.aload_n 1, 1) := by decide +kernel
theorem dX8_cuts_26 : decode cX8_cuts 26 = .ok (.iload 7, 2) := by decide +kernel
theorem dX8_cuts_28 : decode cX8_cuts 28 = .ok (.baload, 1) := by decide +kernel
theorem dX8_cuts_29 : decode cX8_cuts 29 = .ok (.ifCond .ne 6, 3) := by decide +kernel
theorem dX8_cuts_32 : decode cX8_cuts 32 = .ok (.goto 61, 3) := by decide +kernel
theorem dX8_cuts_35 : decode cX8_cuts 35 = .ok (.aload_n 0, 1) := by decide +kernel
theorem dX8_cuts_36 : decode cX8_cuts 36 = .ok (.getfield 20, 3) := by decide +kernel
theorem dX8_cuts_39 : decode cX8_cuts 39 = .ok (.iload 7, 2) := by decide +kernel
theorem dX8_cuts_41 : decode cX8_cuts 41 = .ok (.aload_n 0, 1) := by decide +kernel
theorem dX8_cuts_42 : decode cX8_cuts 42 = .ok (.getfield 13, 3) := by decide +kernel
theorem dX8_cuts_45 : decode cX8_cuts 45 = .ok (.iload 7, 2) := by decide +kernel
theorem dX8_cuts_47 : decode cX8_cuts 47 = .ok (.laload, 1) := by decide +kernel
theorem dX8_cuts_48 : decode cX8_cuts 48 = .ok (.aload_n 0, 1) := by decide +kernel
theorem dX8_cuts_49 : decode cX8_cuts 49 = .ok (.getfield 17, 3) := by decide +kernel
theorem dX8_cuts_52 : decode cX8_cuts 52 = .ok (.iload 7, 2) := by decide +kernel
theorem dX8_cuts_54 : decode cX8_cuts 54 = .ok (.laload, 1) := by decide +kernel
theorem dX8_cuts_55 : decode cX8_cuts 55 = .ok (.aload_n 0, 1) := by decide +kernel
theorem dX8_cuts_56 : decode cX8_cuts 56 = .ok (.getfield 7, 3) := by decide +kernel
theorem dX8_cuts_59 : decode cX8_cuts 59 = .ok (.ldiv, 1) := by decide +kernel
theorem dX8_cuts_60 : decode cX8_cuts 60 = .ok (.ladd, 1) := by decide +kernel
theorem dX8_cuts_61 : decode cX8_cuts 61 = .ok (.l2i, 1) := by decide +kernel
theorem dX8_cuts_62 : decode cX8_cuts 62 = .ok (.iastore, 1) := by decide +kernel
theorem dX8_cuts_63 : decode cX8_cuts 63 = .ok (.aload 6, 2) := by decide +kernel
theorem dX8_cuts_65 : decode cX8_cuts 65 = .ok (.iload 7, 2) := by decide +kernel
theorem dX8_cuts_67 : decode cX8_cuts 67 = .ok (.aload_n 0, 1) := by decide +kernel
theorem dX8_cuts_68 : decode cX8_cuts 68 = .ok (.getfield 17, 3) := by decide +kernel
theorem dX8_cuts_71 : decode cX8_cuts 71 = .ok (.iload 7, 2) := by decide +kernel
theorem dX8_cuts_73 : decode cX8_cuts 73 = .ok (.laload, 1) := by decide +kernel
theorem dX8_cuts_74 : decode cX8_cuts 74 = .ok (.aload_n 0, 1) := by decide +kernel
theorem dX8_cuts_75 : decode cX8_cuts 75 = .ok (.getfield 7, 3) := by decide +kernel
theorem dX8_cuts_78 : decode cX8_cuts 78 = .ok (.lrem, 1) := by decide +kernel
theorem dX8_cuts_79 : decode cX8_cuts 79 = .ok (.lastore, 1) := by decide +kernel
theorem dX8_cuts_80 : decode cX8_cuts 80 = .ok (.lload 4, 2) := by decide +kernel
theorem dX8_cuts_82 : decode cX8_cuts 82 = .ok (.aload_n 0, 1) := by decide +kernel
theorem dX8_cuts_83 : decode cX8_cuts 83 = .ok (.getfield 20, 3) := by decide +kernel
theorem dX8_cuts_86 : decode cX8_cuts 86 = .ok (.iload 7, 2) := by decide +kernel
theorem dX8_cuts_88 : decode cX8_cuts 88 = .ok (.iaload, 1) := by decide +kernel
theorem dX8_cuts_89 : decode cX8_cuts 89 = .ok (.i2l, 1) := by decide +kernel
theorem dX8_cuts_90 : decode cX8_cuts 90 = .ok (.lsub, 1) := by decide +kernel
theorem dX8_cuts_91 : decode cX8_cuts 91 = .ok (.lstore 4, 2) := by decide +kernel
theorem dX8_cuts_93 : decode cX8_cuts 93 = .ok (.iinc 7 1, 3) := by decide +kernel
theorem dX8_cuts_96 : decode cX8_cuts 96 = .ok (.goto (-81), 3) := by decide +kernel
theorem dX8_cuts_99 : decode cX8_cuts 99 = .ok (.aload_n 0, 1) := by decide +kernel
theorem dX8_cuts_100 : decode cX8_cuts 100 = .ok (.lload 4, 2) := by decide +kernel
theorem dX8_cuts_102 : decode cX8_cuts 102 = .ok (.l2i, 1) := by decide +kernel
theorem dX8_cuts_103 : decode cX8_cuts 103 = .ok (.putfield 27, 3) := by decide +kernel
theorem dX8_cuts_106 : decode cX8_cuts 106 = .ok (.lload 4, 2) := by decide +kernel
theorem dX8_cuts_108 : decode cX8_cuts 108 = .ok (.lconst 0, 1) := by decide +kernel
theorem dX8_cuts_109 : decode cX8_cuts 109 = .ok (.lcmp, 1) := by decide +kernel
theorem dX8_cuts_110 : decode cX8_cuts 110 = .ok (.ifCond .le 83, 3) := by decide +kernel
theorem dX8_cuts_113 : decode cX8_cuts 113 = .ok (.iconst (-1), 1) := by decide +kernel
theorem dX8_cuts_114 : decode cX8_cuts 114 = .ok (.istore 7, 2) := by decide +kernel
theorem dX8_cuts_116 : decode cX8_cuts 116 = .ok (.iconst 0, 1) := by decide +kernel
theorem dX8_cuts_117 : decode cX8_cuts 117 = .ok (.istore 8, 2) := by decide +kernel
theorem dX8_cuts_119 : decode cX8_cuts 119 = .ok (.iload 8, 2) := by decide +kernel
theorem dX8_cuts_121 : decode cX8_cuts 121 = .ok (.aload_n 0, 1) := by decide +kernel
theorem dX8_cuts_122 : decode cX8_cuts 122 = .ok (.getfield 13, 3) := by decide +kernel
theorem dX8_cuts_125 : decode cX8_cuts 125 = .ok (.arraylength, 1) := by decide +kernel
theorem dX8_cuts_126 : decode cX8_cuts 126 = .ok (.if_icmp .ge 39, 3) := by decide +kernel
theorem dX8_cuts_129 : decode cX8_cuts 129 = .ok (.aload_n 1, 1) := by decide +kernel
theorem dX8_cuts_130 : decode cX8_cuts 130 = .ok (.iload 8, 2) := by decide +kernel
theorem dX8_cuts_132 : decode cX8_cuts 132 = .ok (.baload, 1) := by decide +kernel
theorem dX8_cuts_133 : decode cX8_cuts 133 = .ok (.ifCond .eq 26, 3) := by decide +kernel
theorem dX8_cuts_136 : decode cX8_cuts 136 = .ok (.iload 7, 2) := by decide +kernel
theorem dX8_cuts_138 : decode cX8_cuts 138 = .ok (.ifCond .lt 17, 3) := by decide +kernel
theorem dX8_cuts_141 : decode cX8_cuts 141 = .ok (.aload 6, 2) := by decide +kernel
theorem dX8_cuts_143 : decode cX8_cuts 143 = .ok (.iload 8, 2) := by decide +kernel
theorem dX8_cuts_145 : decode cX8_cuts 145 = .ok (.laload, 1) := by decide +kernel
theorem dX8_cuts_146 : decode cX8_cuts 146 = .ok (.aload 6, 2) := by decide +kernel
theorem dX8_cuts_148 : decode cX8_cuts 148 = .ok (.iload 7, 2) := by decide +kernel
theorem dX8_cuts_150 : decode cX8_cuts 150 = .ok (.laload, 1) := by decide +kernel
theorem dX8_cuts_151 : decode cX8_cuts 151 = .ok (.lcmp, 1) := by decide +kernel
theorem dX8_cuts_152 : decode cX8_cuts 152 = .ok (.ifCond .le 7, 3) := by decide +kernel
theorem dX8_cuts_155 : decode cX8_cuts 155 = .ok (.iload 8, 2) := by decide +kernel
theorem dX8_cuts_157 : decode cX8_cuts 157 = .ok (.istore 7, 2) := by decide +kernel
theorem dX8_cuts_159 : decode cX8_cuts 159 = .ok (.iinc 8 1, 3) := by decide +kernel
theorem dX8_cuts_162 : decode cX8_cuts 162 = .ok (.goto (-43), 3) := by decide +kernel
theorem dX8_cuts_165 : decode cX8_cuts 165 = .ok (.aload_n 0, 1) := by decide +kernel
theorem dX8_cuts_166 : decode cX8_cuts 166 = .ok (.getfield 20, 3) := by decide +kernel
theorem dX8_cuts_169 : decode cX8_cuts 169 = .ok (.iload 7, 2) := by decide +kernel
theorem dX8_cuts_171 : decode cX8_cuts 171 = .ok (.dup2, 1) := by decide +kernel
theorem dX8_cuts_172 : decode cX8_cuts 172 = .ok (.iaload, 1) := by decide +kernel
theorem dX8_cuts_173 : decode cX8_cuts 173 = .ok (.iconst 1, 1) := by decide +kernel
theorem dX8_cuts_174 : decode cX8_cuts 174 = .ok (.iadd, 1) := by decide +kernel
theorem dX8_cuts_175 : decode cX8_cuts 175 = .ok (.iastore, 1) := by decide +kernel
theorem dX8_cuts_176 : decode cX8_cuts 176 = .ok (.aload 6, 2) := by decide +kernel
theorem dX8_cuts_178 : decode cX8_cuts 178 = .ok (.iload 7, 2) := by decide +kernel
theorem dX8_cuts_180 : decode cX8_cuts 180 = .ok (.ldc2_w 31, 3) := by decide +kernel
theorem dX8_cuts_183 : decode cX8_cuts 183 = .ok (.lastore, 1) := by decide +kernel
theorem dX8_cuts_184 : decode cX8_cuts 184 = .ok (.lload 4, 2) := by decide +kernel
theorem dX8_cuts_186 : decode cX8_cuts 186 = .ok (.lconst 1, 1) := by decide +kernel
theorem dX8_cuts_187 : decode cX8_cuts 187 = .ok (.lsub, 1) := by decide +kernel
theorem dX8_cuts_188 : decode cX8_cuts 188 = .ok (.lstore 4, 2) := by decide +kernel
theorem dX8_cuts_190 : decode cX8_cuts 190 = .ok (.goto (-84), 3) := by decide +kernel
theorem dX8_cuts_193 : decode cX8_cuts 193 = .ok (.return_, 1) := by decide +kernel
theorem dJ5_init_d00df_0 : decode cJ5_init_d00df 0 = .ok (.aload_n 0, 1) := by decide +kernel
theorem dJ5_init_d00df_1 : decode cJ5_init_d00df 1 = .ok (.invokespecial 3, 3) := by decide +kernel
theorem dJ5_init_d00df_4 : decode cJ5_init_d00df 4 = .ok (.getstatic 18, 3) := by decide +kernel
theorem dJ5_init_d00df_7 : decode cJ5_init_d00df 7 = .ok (.ifCond .eq 18, 3) := by decide +kernel
theorem dJ5_init_d00df_10 : decode cJ5_init_d00df 10 = .ok (.aload_n 0, 1) := by decide +kernel
theorem dJ5_init_d00df_11 : decode cJ5_init_d00df 11 = .ok (.iload_n 1, 1) := by decide +kernel
theorem dJ5_init_d00df_12 : decode cJ5_init_d00df 12 = .ok (.newarray .byte, 2) := by decide +kernel
theorem dJ5_init_d00df_14 : decode cJ5_init_d00df 14 = .ok (.putfield 15, 3) := by decide +kernel
theorem dJ5_init_d00df_17 : decode cJ5_init_d00df 17 = .ok (.aload_n 0, 1) := by decide +kernel
theorem dJ5_init_d00df_18 : decode cJ5_init_d00df 18 = .ok (.iconst 0, 1) := by decide +kernel
theorem dJ5_init_d00df_19 : decode cJ5_init_d00df 19 = .ok (.putfield 22, 3) := by decide +kernel
theorem dJ5_init_d00df_22 : decode cJ5_init_d00df 22 = .ok (.goto 16, 3) := by decide +kernel
theorem dJ5_init_d00df_25 : decode cJ5_init_d00df 25 = .ok (.aload_n 0, 1) := by decide +kernel
theorem dJ5_init_d00df_26 : decode cJ5_init_d00df 26 = .ok (.iload_n 1, 1) := by decide +kernel
theorem dJ5_init_d00df_27 : decode cJ5_init_d00df 27 = .ok (.invokestatic 26, 3) := by decide +kernel
theorem dJ5_init_d00df_30 : decode cJ5_init_d00df 30 = .ok (.putfield 15, 3) := by decide +kernel
theorem dJ5_init_d00df_33 : decode cJ5_init_d00df 33 = .ok (.aload_n 0, 1) := by decide +kernel
theorem dJ5_init_d00df_34 : decode cJ5_init_d00df 34 = .ok (.iconst 1, 1) := by decide +kernel
theorem dJ5_init_d00df_35 : decode cJ5_init_d00df 35 = .ok (.putfield 22, 3) := by decide +kernel
theorem dJ5_init_d00df_38 : decode cJ5_init_d00df 38 = .ok (.return_, 1) := by decide +kernel
theorem dJ5_length_8abf5_0 : decode cJ5_length_8abf5 0 = .ok (.aload_n 0, 1) := by decide +kernel
theorem dJ5_length_8abf5_1 : decode cJ5_length_8abf5 1 = .ok (.getfield 79, 3) := by decide +kernel
theorem dJ5_length_8abf5_4 : decode cJ5_length_8abf5 4 = .ok (.ireturn, 1) := by decide +kernel
theorem dJ5_ensureCapacityInternal_d00df_0 : decode cJ5_ensureCapacityInternal_d00df 0 = .ok (.aload_n 0, 1) := by decide +kernel
theorem dJ5_ensureCapacityInternal_d00df_1 : decode cJ5_ensureCapacityInternal_d00df 1 = .ok (.getfield 15, 3) := by decide +kernel
theorem dJ5_ensureCapacityInternal_d00df_4 : decode cJ5_ensureCapacityInternal_d00df 4 = .ok (.arraylength, 1) := by decide +kernel
theorem dJ5_ensureCapacityInternal_d00df_5 : decode cJ5_ensureCapacityInternal_d00df 5 = .ok (.aload_n 0, 1) := by decide +kernel
theorem dJ5_ensureCapacityInternal_d00df_6 : decode cJ5_ensureCapacityInternal_d00df 6 = .ok (.getfield 22, 3) := by decide +kernel
theorem dJ5_ensureCapacityInternal_d00df_9 : decode cJ5_ensureCapacityInternal_d00df 9 = .ok (.ishr, 1) := by decide +kernel
theorem dJ5_ensureCapacityInternal_d00df_10 : decode cJ5_ensureCapacityInternal_d00df 10 = .ok (.istore_n 2, 1) := by decide +kernel
theorem dJ5_ensureCapacityInternal_d00df_11 : decode cJ5_ensureCapacityInternal_d00df 11 = .ok (.iload_n 1, 1) := by decide +kernel
theorem dJ5_ensureCapacityInternal_d00df_12 : decode cJ5_ensureCapacityInternal_d00df 12 = .ok (.iload_n 2, 1) := by decide +kernel
theorem dJ5_ensureCapacityInternal_d00df_13 : decode cJ5_ensureCapacityInternal_d00df 13 = .ok (.isub, 1) := by decide +kernel
theorem dJ5_ensureCapacityInternal_d00df_14 : decode cJ5_ensureCapacityInternal_d00df 14 = .ok (.ifCond .le 24, 3) := by decide +kernel
theorem dJ5_ensureCapacityInternal_d00df_17 : decode cJ5_ensureCapacityInternal_d00df 17 = .ok (.aload_n 0, 1) := by decide +kernel
theorem dJ5_ensureCapacityInternal_d00df_18 : decode cJ5_ensureCapacityInternal_d00df 18 = .ok (.aload_n 0, 1) := by decide +kernel
theorem dJ5_ensureCapacityInternal_d00df_19 : decode cJ5_ensureCapacityInternal_d00df 19 = .ok (.getfield 15, 3) := by decide +kernel
theorem dJ5_ensureCapacityInternal_d00df_22 : decode cJ5_ensureCapacityInternal_d00df 22 = .ok (.aload_n 0, 1) := by decide +kernel
theorem dJ5_ensureCapacityInternal_d00df_23 : decode cJ5_ensureCapacityInternal_d00df 23 = .ok (.iload_n 1, 1) := by decide +kernel
theorem dJ5_ensureCapacityInternal_d00df_24 : decode cJ5_ensureCapacityInternal_d00df 24 = .ok (.invokevirtual 104, 3) := by decide +kernel
theorem dJ5_ensureCapacityInternal_d00df_27 : decode cJ5_ensureCapacityInternal_d00df 27 = .ok (.aload_n 0, 1) := by decide +kernel
theorem dJ5_ensureCapacityInternal_d00df_28 : decode cJ5_ensureCapacityInternal_d00df 28 = .ok (.getfield 22, 3) := by decide +kernel
theorem dJ5_ensureCapacityInternal_d00df_31 : decode cJ5_ensureCapacityInternal_d00df 31 = .ok (.ishl, 1) := by decide +kernel
theorem dJ5_ensureCapacityInternal_d00df_32 : decode cJ5_ensureCapacityInternal_d00df 32 = .ok (.invokestatic 108, 3) := by decide +kernel
theorem dJ5_ensureCapacityInternal_d00df_35 : decode cJ5_ensureCapacityInternal_d00df 35 = .ok (.putfield 15, 3) := by decide +kernel
theorem dJ5_ensureCapacityInternal_d00df_38 : decode cJ5_ensureCapacityInternal_d00df 38 = .ok (.return_, 1) := by decide +kernel
theorem dJ5_newCapacity_0f7a4_0 : decode cJ5_newCapacity_0f7a4 0 = .ok (.aload_n 0, 1) := by decide +kernel
theorem dJ5_newCapacity_0f7a4_1 : decode cJ5_newCapacity_0f7a4 1 = .ok (.getfield 15, 3) := by decide +kernel
theorem dJ5_newCapacity_0f7a4_4 : decode cJ5_newCapacity_0f7a4 4 = .ok (.arraylength, 1) := by decide +kernel
theorem dJ5_newCapacity_0f7a4_5 : decode cJ5_newCapacity_0f7a4 5 = .ok (.istore_n 2, 1) := by decide +kernel
theorem dJ5_newCapacity_0f7a4_6 : decode cJ5_newCapacity_0f7a4 6 = .ok (.iload_n 1, 1) := by decide +kernel
theorem dJ5_newCapacity_0f7a4_7 : decode cJ5_newCapacity_0f7a4 7 = .ok (.aload_n 0, 1) := by decide +kernel
theorem dJ5_newCapacity_0f7a4_8 : decode cJ5_newCapacity_0f7a4 8 = .ok (.getfield 22, 3) := by decide +kernel
theorem dJ5_newCapacity_0f7a4_11 : decode cJ5_newCapacity_0f7a4 11 = .ok (.ishl, 1) := by decide +kernel
theorem dJ5_newCapacity_0f7a4_12 : decode cJ5_newCapacity_0f7a4 12 = .ok (.istore_n 3, 1) := by decide +kernel
theorem dJ5_newCapacity_0f7a4_13 : decode cJ5_newCapacity_0f7a4 13 = .ok (.iload_n 3, 1) := by decide +kernel
theorem dJ5_newCapacity_0f7a4_14 : decode cJ5_newCapacity_0f7a4 14 = .ok (.iload_n 2, 1) := by decide +kernel
theorem dJ5_newCapacity_0f7a4_15 : decode cJ5_newCapacity_0f7a4 15 = .ok (.isub, 1) := by decide +kernel
theorem dJ5_newCapacity_0f7a4_16 : decode cJ5_newCapacity_0f7a4 16 = .ok (.istore 4, 2) := by decide +kernel
theorem dJ5_newCapacity_0f7a4_18 : decode cJ5_newCapacity_0f7a4 18 = .ok (.iload_n 2, 1) := by decide +kernel
theorem dJ5_newCapacity_0f7a4_19 : decode cJ5_newCapacity_0f7a4 19 = .ok (.iload 4, 2) := by decide +kernel
theorem dJ5_newCapacity_0f7a4_21 : decode cJ5_newCapacity_0f7a4 21 = .ok (.iload_n 2, 1) := by decide +kernel
theorem dJ5_newCapacity_0f7a4_22 : decode cJ5_newCapacity_0f7a4 22 = .ok (.iconst 2, 1) := by decide +kernel
theorem dJ5_newCapacity_0f7a4_23 : decode cJ5_newCapacity_0f7a4 23 = .ok (.aload_n 0, 1) := by decide +kernel
theorem dJ5_newCapacity_0f7a4_24 : decode cJ5_newCapacity_0f7a4 24 = .ok (.getfield 22, 3) := by decide +kernel
theorem dJ5_newCapacity_0f7a4_27 : decode cJ5_newCapacity_0f7a4 27 = .ok (.ishl, 1) := by decide +kernel
theorem dJ5_newCapacity_0f7a4_28 : decode cJ5_newCapacity_0f7a4 28 = .ok (.iadd, 1) := by decide +kernel
theorem dJ5_newCapacity_0f7a4_29 : decode cJ5_newCapacity_0f7a4 29 = .ok (.invokestatic 114, 3) := by decide +kernel
theorem dJ5_newCapacity_0f7a4_32 : decode cJ5_newCapacity_0f7a4 32 = .ok (.istore 5, 2) := by decide +kernel
theorem dJ5_newCapacity_0f7a4_34 : decode cJ5_newCapacity_0f7a4 34 = .ok (.iload 5, 2) := by decide +kernel
theorem dJ5_newCapacity_0f7a4_36 : decode cJ5_newCapacity_0f7a4 36 = .ok (.ldc 39, 2) := by decide +kernel
theorem dJ5_newCapacity_0f7a4_38 : decode cJ5_newCapacity_0f7a4 38 = .ok (.if_icmp .ne 13, 3) := by decide +kernel
theorem dJ5_newCapacity_0f7a4_41 : decode cJ5_newCapacity_0f7a4 41 = .ok (.new 120, 3) := by decide +kernel
theorem dJ5_newCapacity_0f7a4_44 : decode cJ5_newCapacity_0f7a4 44 = .ok (.dup, 1) := by decide +kernel
theorem dJ5_newCapacity_0f7a4_45 : decode cJ5_newCapacity_0f7a4 45 = .ok (.ldc 122, 2) := by decide +kernel
theorem dJ5_newCapacity_0f7a4_47 : decode cJ5_newCapacity_0f7a4 47 = .ok (.invokespecial 124, 3) := by decide +kernel
theorem dJ5_newCapacity_0f7a4_50 : decode cJ5_newCapacity_0f7a4 50 = .ok (.athrow, 1) := by decide +kernel
theorem dJ5_newCapacity_0f7a4_51 : decode cJ5_newCapacity_0f7a4 51 = .ok (.iload 5, 2) := by decide +kernel
theorem dJ5_newCapacity_0f7a4_53 : decode cJ5_newCapacity_0f7a4 53 = .ok (.aload_n 0, 1) := by decide +kernel
theorem dJ5_newCapacity_0f7a4_54 : decode cJ5_newCapacity_0f7a4 54 = .ok (.getfield 22, 3) := by decide +kernel
theorem dJ5_newCapacity_0f7a4_57 : decode cJ5_newCapacity_0f7a4 57 = .ok (.ishr, 1) := by decide +kernel
theorem dJ5_newCapacity_0f7a4_58 : decode cJ5_newCapacity_0f7a4 58 = .ok (.ireturn, 1) := by decide +kernel
theorem dJ5_inflate_da8c8_0 : decode cJ5_inflate_da8c8 0 = .ok (.aload_n 0, 1) := by decide +kernel
theorem dJ5_inflate_da8c8_1 : decode cJ5_inflate_da8c8 1 = .ok (.invokevirtual 83, 3) := by decide +kernel
theorem dJ5_inflate_da8c8_4 : decode cJ5_inflate_da8c8 4 = .ok (.ifCond .ne 4, 3) := by decide +kernel
theorem dJ5_inflate_da8c8_7 : decode cJ5_inflate_da8c8 7 = .ok (.return_, 1) := by decide +kernel
theorem dJ5_inflate_da8c8_8 : decode cJ5_inflate_da8c8 8 = .ok (.aload_n 0, 1) := by decide +kernel
theorem dJ5_inflate_da8c8_9 : decode cJ5_inflate_da8c8 9 = .ok (.getfield 15, 3) := by decide +kernel
theorem dJ5_inflate_da8c8_12 : decode cJ5_inflate_da8c8 12 = .ok (.arraylength, 1) := by decide +kernel
theorem dJ5_inflate_da8c8_13 : decode cJ5_inflate_da8c8 13 = .ok (.invokestatic 26, 3) := by decide +kernel
theorem dJ5_inflate_da8c8_16 : decode cJ5_inflate_da8c8 16 = .ok (.astore_n 1, 1) := by decide +kernel
theorem dJ5_inflate_da8c8_17 : decode cJ5_inflate_da8c8 17 = .ok (.aload_n 0, 1) := by decide +kernel
theorem dJ5_inflate_da8c8_18 : decode cJ5_inflate_da8c8 18 = .ok (.getfield 15, 3) := by decide +kernel
theorem dJ5_inflate_da8c8_21 : decode cJ5_inflate_da8c8 21 = .ok (.iconst 0, 1) := by decide +kernel
theorem dJ5_inflate_da8c8_22 : decode cJ5_inflate_da8c8 22 = .ok (.aload_n 1, 1) := by decide +kernel
theorem dJ5_inflate_da8c8_23 : decode cJ5_inflate_da8c8 23 = .ok (.iconst 0, 1) := by decide +kernel
theorem dJ5_inflate_da8c8_24 : decode cJ5_inflate_da8c8 24 = .ok (.aload_n 0, 1) := by decide +kernel
theorem dJ5_inflate_da8c8_25 : decode cJ5_inflate_da8c8 25 = .ok (.getfield 79, 3) := by decide +kernel
theorem dJ5_inflate_da8c8_28 : decode cJ5_inflate_da8c8 28 = .ok (.invokestatic 125, 3) := by decide +kernel
theorem dJ5_inflate_da8c8_31 : decode cJ5_inflate_da8c8 31 = .ok (.aload_n 0, 1) := by decide +kernel
theorem dJ5_inflate_da8c8_32 : decode cJ5_inflate_da8c8 32 = .ok (.aload_n 1, 1) := by decide +kernel
theorem dJ5_inflate_da8c8_33 : decode cJ5_inflate_da8c8 33 = .ok (.putfield 15, 3) := by decide +kernel
theorem dJ5_inflate_da8c8_36 : decode cJ5_inflate_da8c8 36 = .ok (.aload_n 0, 1) := by decide +kernel
theorem dJ5_inflate_da8c8_37 : decode cJ5_inflate_da8c8 37 = .ok (.iconst 1, 1) := by decide +kernel
theorem dJ5_inflate_da8c8_38 : decode cJ5_inflate_da8c8 38 = .ok (.putfield 22, 3) := by decide +kernel
theorem dJ5_inflate_da8c8_41 : decode cJ5_inflate_da8c8 41 = .ok (.return_, 1) := by decide +kernel
theorem dJ5_append_cf1ce_0 : decode cJ5_append_cf1ce 0 = .ok (.aload_n 1, 1) := by decide +kernel
theorem dJ5_append_cf1ce_1 : decode cJ5_append_cf1ce 1 = .ok (.ifnonnull 8, 3) := by decide +kernel
theorem dJ5_append_cf1ce_4 : decode cJ5_append_cf1ce 4 = .ok (.aload_n 0, 1) := by decide +kernel
theorem dJ5_append_cf1ce_5 : decode cJ5_append_cf1ce 5 = .ok (.invokevirtual 204, 3) := by decide +kernel
theorem dJ5_append_cf1ce_8 : decode cJ5_append_cf1ce 8 = .ok (.areturn, 1) := by decide +kernel
theorem dJ5_append_cf1ce_9 : decode cJ5_append_cf1ce 9 = .ok (.aload_n 1, 1) := by decide +kernel
theorem dJ5_append_cf1ce_10 : decode cJ5_append_cf1ce 10 = .ok (.invokevirtual 32, 3) := by decide +kernel
theorem dJ5_append_cf1ce_13 : decode cJ5_append_cf1ce 13 = .ok (.istore_n 2, 1) := by decide +kernel
theorem dJ5_append_cf1ce_14 : decode cJ5_append_cf1ce 14 = .ok (.aload_n 0, 1) := by decide +kernel
theorem dJ5_append_cf1ce_15 : decode cJ5_append_cf1ce 15 = .ok (.aload_n 0, 1) := by decide +kernel
theorem dJ5_append_cf1ce_16 : decode cJ5_append_cf1ce 16 = .ok (.getfield 79, 3) := by decide +kernel
theorem dJ5_append_cf1ce_19 : decode cJ5_append_cf1ce 19 = .ok (.iload_n 2, 1) := by decide +kernel
theorem dJ5_append_cf1ce_20 : decode cJ5_append_cf1ce 20 = .ok (.iadd, 1) := by decide +kernel
theorem dJ5_append_cf1ce_21 : decode cJ5_append_cf1ce 21 = .ok (.invokevirtual 100, 3) := by decide +kernel
theorem dJ5_append_cf1ce_24 : decode cJ5_append_cf1ce 24 = .ok (.aload_n 0, 1) := by decide +kernel
theorem dJ5_append_cf1ce_25 : decode cJ5_append_cf1ce 25 = .ok (.aload_n 0, 1) := by decide +kernel
theorem dJ5_append_cf1ce_26 : decode cJ5_append_cf1ce 26 = .ok (.getfield 79, 3) := by decide +kernel
theorem dJ5_append_cf1ce_29 : decode cJ5_append_cf1ce 29 = .ok (.aload_n 1, 1) := by decide +kernel
theorem dJ5_append_cf1ce_30 : decode cJ5_append_cf1ce 30 = .ok (.invokevirtual 208, 3) := by decide +kernel
theorem dJ5_append_cf1ce_33 : decode cJ5_append_cf1ce 33 = .ok (.aload_n 0, 1) := by decide +kernel
theorem dJ5_append_cf1ce_34 : decode cJ5_append_cf1ce 34 = .ok (.dup, 1) := by decide +kernel
theorem dJ5_append_cf1ce_35 : decode cJ5_append_cf1ce 35 = .ok (.getfield 79, 3) := by decide +kernel
theorem dJ5_append_cf1ce_38 : decode cJ5_append_cf1ce 38 = .ok (.iload_n 2, 1) := by decide +kernel
theorem dJ5_append_cf1ce_39 : decode cJ5_append_cf1ce 39 = .ok (.iadd, 1) := by decide +kernel
theorem dJ5_append_cf1ce_40 : decode cJ5_append_cf1ce 40 = .ok (.putfield 79, 3) := by decide +kernel
theorem dJ5_append_cf1ce_43 : decode cJ5_append_cf1ce 43 = .ok (.aload_n 0, 1) := by decide +kernel
theorem dJ5_append_cf1ce_44 : decode cJ5_append_cf1ce 44 = .ok (.areturn, 1) := by decide +kernel
theorem dJ5_appendNull_278bc_0 : decode cJ5_appendNull_278bc 0 = .ok (.aload_n 0, 1) := by decide +kernel
theorem dJ5_appendNull_278bc_1 : decode cJ5_appendNull_278bc 1 = .ok (.aload_n 0, 1) := by decide +kernel
theorem dJ5_appendNull_278bc_2 : decode cJ5_appendNull_278bc 2 = .ok (.getfield 79, 3) := by decide +kernel
theorem dJ5_appendNull_278bc_5 : decode cJ5_appendNull_278bc 5 = .ok (.iconst 4, 1) := by decide +kernel
theorem dJ5_appendNull_278bc_6 : decode cJ5_appendNull_278bc 6 = .ok (.iadd, 1) := by decide +kernel
theorem dJ5_appendNull_278bc_7 : decode cJ5_appendNull_278bc 7 = .ok (.invokevirtual 100, 3) := by decide +kernel
theorem dJ5_appendNull_278bc_10 : decode cJ5_appendNull_278bc 10 = .ok (.aload_n 0, 1) := by decide +kernel
theorem dJ5_appendNull_278bc_11 : decode cJ5_appendNull_278bc 11 = .ok (.getfield 79, 3) := by decide +kernel
theorem dJ5_appendNull_278bc_14 : decode cJ5_appendNull_278bc 14 = .ok (.istore_n 1, 1) := by decide +kernel
theorem dJ5_appendNull_278bc_15 : decode cJ5_appendNull_278bc 15 = .ok (.aload_n 0, 1) := by decide +kernel
theorem dJ5_appendNull_278bc_16 : decode cJ5_appendNull_278bc 16 = .ok (.getfield 15, 3) := by decide +kernel
theorem dJ5_appendNull_278bc_19 : decode cJ5_appendNull_278bc 19 = .ok (.astore_n 2, 1) := by decide +kernel
theorem dJ5_appendNull_278bc_20 : decode cJ5_appendNull_278bc 20 = .ok (.aload_n 0, 1) := by decide +kernel
theorem dJ5_appendNull_278bc_21 : decode cJ5_appendNull_278bc 21 = .ok (.invokevirtual 83, 3) := by decide +kernel
theorem dJ5_appendNull_278bc_24 : decode cJ5_appendNull_278bc 24 = .ok (.ifCond .eq 38, 3) := by decide +kernel
theorem dJ5_appendNull_278bc_27 : decode cJ5_appendNull_278bc 27 = .ok (.aload_n 2, 1) := by decide +kernel
theorem dJ5_appendNull_278bc_28 : decode cJ5_appendNull_278bc 28 = .ok (.iload_n 1, 1) := by decide +kernel
theorem dJ5_appendNull_278bc_29 : decode cJ5_appendNull_278bc 29 = .ok (.iinc 1 1, 3) := by decide +kernel
theorem dJ5_appendNull_278bc_32 : decode cJ5_appendNull_278bc 32 = .ok (.bipush 110, 2) := by decide +kernel
theorem dJ5_appendNull_278bc_34 : decode cJ5_appendNull_278bc 34 = .ok (.bastore, 1) := by decide +kernel
theorem dJ5_appendNull_278bc_35 : decode cJ5_appendNull_278bc 35 = .ok (.aload_n 2, 1) := by decide +kernel
theorem dJ5_appendNull_278bc_36 : decode cJ5_appendNull_278bc 36 = .ok (.iload_n 1, 1) := by decide +kernel
theorem dJ5_appendNull_278bc_37 : decode cJ5_appendNull_278bc 37 = .ok (.iinc 1 1, 3) := by decide +kernel
theorem dJ5_appendNull_278bc_40 : decode cJ5_appendNull_278bc 40 = .ok (.bipush 117, 2) := by decide +kernel
theorem dJ5_appendNull_278bc_42 : decode cJ5_appendNull_278bc 42 = .ok (.bastore, 1) := by decide +kernel
theorem dJ5_appendNull_278bc_43 : decode cJ5_appendNull_278bc 43 = .ok (.aload_n 2, 1) := by decide +kernel
theorem dJ5_appendNull_278bc_44 : decode cJ5_appendNull_278bc 44 = .ok (.iload_n 1, 1) := by decide +kernel
theorem dJ5_appendNull_278bc_45 : decode cJ5_appendNull_278bc 45 = .ok (.iinc 1 1, 3) := by decide +kernel
theorem dJ5_appendNull_278bc_48 : decode cJ5_appendNull_278bc 48 = .ok (.bipush 108, 2) := by decide +kernel
theorem dJ5_appendNull_278bc_50 : decode cJ5_appendNull_278bc 50 = .ok (.bastore, 1) := by decide +kernel
theorem dJ5_appendNull_278bc_51 : decode cJ5_appendNull_278bc 51 = .ok (.aload_n 2, 1) := by decide +kernel
theorem dJ5_appendNull_278bc_52 : decode cJ5_appendNull_278bc 52 = .ok (.iload_n 1, 1) := by decide +kernel
theorem dJ5_appendNull_278bc_53 : decode cJ5_appendNull_278bc 53 = .ok (.iinc 1 1, 3) := by decide +kernel
theorem dJ5_appendNull_278bc_56 : decode cJ5_appendNull_278bc 56 = .ok (.bipush 108, 2) := by decide +kernel
theorem dJ5_appendNull_278bc_58 : decode cJ5_appendNull_278bc 58 = .ok (.bastore, 1) := by decide +kernel
theorem dJ5_appendNull_278bc_59 : decode cJ5_appendNull_278bc 59 = .ok (.goto 17, 3) := by decide +kernel
theorem dJ5_appendNull_278bc_62 : decode cJ5_appendNull_278bc 62 = .ok (.aload_n 2, 1) := by decide +kernel
theorem dJ5_appendNull_278bc_63 : decode cJ5_appendNull_278bc 63 = .ok (.iload_n 1, 1) := by decide +kernel
theorem dJ5_appendNull_278bc_64 : decode cJ5_appendNull_278bc 64 = .ok (.bipush 110, 2) := by decide +kernel
theorem dJ5_appendNull_278bc_66 : decode cJ5_appendNull_278bc 66 = .ok (.bipush 117, 2) := by decide +kernel
theorem dJ5_appendNull_278bc_68 : decode cJ5_appendNull_278bc 68 = .ok (.bipush 108, 2) := by decide +kernel
theorem dJ5_appendNull_278bc_70 : decode cJ5_appendNull_278bc 70 = .ok (.bipush 108, 2) := by decide +kernel
theorem dJ5_appendNull_278bc_72 : decode cJ5_appendNull_278bc 72 = .ok (.invokestatic 226, 3) := by decide +kernel
theorem dJ5_appendNull_278bc_75 : decode cJ5_appendNull_278bc 75 = .ok (.istore_n 1, 1) := by decide +kernel
theorem dJ5_appendNull_278bc_76 : decode cJ5_appendNull_278bc 76 = .ok (.aload_n 0, 1) := by decide +kernel
theorem dJ5_appendNull_278bc_77 : decode cJ5_appendNull_278bc 77 = .ok (.iload_n 1, 1) := by decide +kernel
theorem dJ5_appendNull_278bc_78 : decode cJ5_appendNull_278bc 78 = .ok (.putfield 79, 3) := by decide +kernel
theorem dJ5_appendNull_278bc_81 : decode cJ5_appendNull_278bc 81 = .ok (.aload_n 0, 1) := by decide +kernel
theorem dJ5_appendNull_278bc_82 : decode cJ5_appendNull_278bc 82 = .ok (.areturn, 1) := by decide +kernel
theorem dJ5_append_3fe6f_0 : decode cJ5_append_3fe6f 0 = .ok (.aload_n 0, 1) := by decide +kernel
theorem dJ5_append_3fe6f_1 : decode cJ5_append_3fe6f 1 = .ok (.aload_n 0, 1) := by decide +kernel
theorem dJ5_append_3fe6f_2 : decode cJ5_append_3fe6f 2 = .ok (.getfield 79, 3) := by decide +kernel
theorem dJ5_append_3fe6f_5 : decode cJ5_append_3fe6f 5 = .ok (.iconst 1, 1) := by decide +kernel
theorem dJ5_append_3fe6f_6 : decode cJ5_append_3fe6f 6 = .ok (.iadd, 1) := by decide +kernel
theorem dJ5_append_3fe6f_7 : decode cJ5_append_3fe6f 7 = .ok (.invokevirtual 100, 3) := by decide +kernel
theorem dJ5_append_3fe6f_10 : decode cJ5_append_3fe6f 10 = .ok (.aload_n 0, 1) := by decide +kernel
theorem dJ5_append_3fe6f_11 : decode cJ5_append_3fe6f 11 = .ok (.invokevirtual 83, 3) := by decide +kernel
theorem dJ5_append_3fe6f_14 : decode cJ5_append_3fe6f 14 = .ok (.ifCond .eq 31, 3) := by decide +kernel
theorem dJ5_append_3fe6f_17 : decode cJ5_append_3fe6f 17 = .ok (.iload_n 1, 1) := by decide +kernel
theorem dJ5_append_3fe6f_18 : decode cJ5_append_3fe6f 18 = .ok (.invokestatic 191, 3) := by decide +kernel
theorem dJ5_append_3fe6f_21 : decode cJ5_append_3fe6f 21 = .ok (.ifCond .eq 24, 3) := by decide +kernel
theorem dJ5_append_3fe6f_24 : decode cJ5_append_3fe6f 24 = .ok (.aload_n 0, 1) := by decide +kernel
theorem dJ5_append_3fe6f_25 : decode cJ5_append_3fe6f 25 = .ok (.getfield 15, 3) := by decide +kernel
theorem dJ5_append_3fe6f_28 : decode cJ5_append_3fe6f 28 = .ok (.aload_n 0, 1) := by decide +kernel
theorem dJ5_append_3fe6f_29 : decode cJ5_append_3fe6f 29 = .ok (.dup, 1) := by decide +kernel
theorem dJ5_append_3fe6f_30 : decode cJ5_append_3fe6f 30 = .ok (.getfield 79, 3) := by decide +kernel
theorem dJ5_append_3fe6f_33 : decode cJ5_append_3fe6f 33 = .ok (.dup_x1, 1) := by decide +kernel
theorem dJ5_append_3fe6f_34 : decode cJ5_append_3fe6f 34 = .ok (.iconst 1, 1) := by decide +kernel
theorem dJ5_append_3fe6f_35 : decode cJ5_append_3fe6f 35 = .ok (.iadd, 1) := by decide +kernel
theorem dJ5_append_3fe6f_36 : decode cJ5_append_3fe6f 36 = .ok (.putfield 79, 3) := by decide +kernel
theorem dJ5_append_3fe6f_39 : decode cJ5_append_3fe6f 39 = .ok (.iload_n 1, 1) := by decide +kernel
theorem dJ5_append_3fe6f_40 : decode cJ5_append_3fe6f 40 = .ok (.i2b, 1) := by decide +kernel
theorem dJ5_append_3fe6f_41 : decode cJ5_append_3fe6f 41 = .ok (.bastore, 1) := by decide +kernel
theorem dJ5_append_3fe6f_42 : decode cJ5_append_3fe6f 42 = .ok (.goto 33, 3) := by decide +kernel
theorem dJ5_append_3fe6f_45 : decode cJ5_append_3fe6f 45 = .ok (.aload_n 0, 1) := by decide +kernel
theorem dJ5_append_3fe6f_46 : decode cJ5_append_3fe6f 46 = .ok (.invokevirtual 83, 3) := by decide +kernel
theorem dJ5_append_3fe6f_49 : decode cJ5_append_3fe6f 49 = .ok (.ifCond .eq 7, 3) := by decide +kernel
theorem dJ5_append_3fe6f_52 : decode cJ5_append_3fe6f 52 = .ok (.aload_n 0, 1) := by decide +kernel
theorem dJ5_append_3fe6f_53 : decode cJ5_append_3fe6f 53 = .ok (.invokevirtual 195, 3) := by decide +kernel
theorem dJ5_append_3fe6f_56 : decode cJ5_append_3fe6f 56 = .ok (.aload_n 0, 1) := by decide +kernel
theorem dJ5_append_3fe6f_57 : decode cJ5_append_3fe6f 57 = .ok (.getfield 15, 3) := by decide +kernel
theorem dJ5_append_3fe6f_60 : decode cJ5_append_3fe6f 60 = .ok (.aload_n 0, 1) := by decide +kernel
theorem dJ5_append_3fe6f_61 : decode cJ5_append_3fe6f 61 = .ok (.dup, 1) := by decide +kernel
theorem dJ5_append_3fe6f_62 : decode cJ5_append_3fe6f 62 = .ok (.getfield 79, 3) := by decide +kernel
theorem dJ5_append_3fe6f_65 : decode cJ5_append_3fe6f 65 = .ok (.dup_x1, 1) := by decide +kernel
theorem dJ5_append_3fe6f_66 : decode cJ5_append_3fe6f 66 = .ok (.iconst 1, 1) := by decide +kernel
theorem dJ5_append_3fe6f_67 : decode cJ5_append_3fe6f 67 = .ok (.iadd, 1) := by decide +kernel
theorem dJ5_append_3fe6f_68 : decode cJ5_append_3fe6f 68 = .ok (.putfield 79, 3) := by decide +kernel
theorem dJ5_append_3fe6f_71 : decode cJ5_append_3fe6f 71 = .ok (.iload_n 1, 1) := by decide +kernel
theorem dJ5_append_3fe6f_72 : decode cJ5_append_3fe6f 72 = .ok (.invokestatic 197, 3) := by decide +kernel
theorem dJ5_append_3fe6f_75 : decode cJ5_append_3fe6f 75 = .ok (.aload_n 0, 1) := by decide +kernel
theorem dJ5_append_3fe6f_76 : decode cJ5_append_3fe6f 76 = .ok (.areturn, 1) := by decide +kernel
theorem dJ5_append_c97b9_0 : decode cJ5_append_c97b9 0 = .ok (.aload_n 0, 1) := by decide +kernel
theorem dJ5_append_c97b9_1 : decode cJ5_append_c97b9 1 = .ok (.getfield 79, 3) := by decide +kernel
theorem dJ5_append_c97b9_4 : decode cJ5_append_c97b9 4 = .ok (.istore_n 2, 1) := by decide +kernel
theorem dJ5_append_c97b9_5 : decode cJ5_append_c97b9 5 = .ok (.iload_n 2, 1) := by decide +kernel
theorem dJ5_append_c97b9_6 : decode cJ5_append_c97b9 6 = .ok (.iload_n 1, 1) := by decide +kernel
theorem dJ5_append_c97b9_7 : decode cJ5_append_c97b9 7 = .ok (.invokestatic 245, 3) := by decide +kernel
theorem dJ5_append_c97b9_10 : decode cJ5_append_c97b9 10 = .ok (.iadd, 1) := by decide +kernel
theorem dJ5_append_c97b9_11 : decode cJ5_append_c97b9 11 = .ok (.istore_n 3, 1) := by decide +kernel
theorem dJ5_append_c97b9_12 : decode cJ5_append_c97b9 12 = .ok (.aload_n 0, 1) := by decide +kernel
theorem dJ5_append_c97b9_13 : decode cJ5_append_c97b9 13 = .ok (.iload_n 3, 1) := by decide +kernel
theorem dJ5_append_c97b9_14 : decode cJ5_append_c97b9 14 = .ok (.invokevirtual 100, 3) := by decide +kernel
theorem dJ5_append_c97b9_17 : decode cJ5_append_c97b9 17 = .ok (.aload_n 0, 1) := by decide +kernel
theorem dJ5_append_c97b9_18 : decode cJ5_append_c97b9 18 = .ok (.invokevirtual 83, 3) := by decide +kernel
theorem dJ5_append_c97b9_21 : decode cJ5_append_c97b9 21 = .ok (.ifCond .eq 16, 3) := by decide +kernel
theorem dJ5_append_c97b9_24 : decode cJ5_append_c97b9 24 = .ok (.iload_n 1, 1) := by decide +kernel
theorem dJ5_append_c97b9_25 : decode cJ5_append_c97b9 25 = .ok (.iload_n 3, 1) := by decide +kernel
theorem dJ5_append_c97b9_26 : decode cJ5_append_c97b9 26 = .ok (.aload_n 0, 1) := by decide +kernel
theorem dJ5_append_c97b9_27 : decode cJ5_append_c97b9 27 = .ok (.getfield 15, 3) := by decide +kernel
theorem dJ5_append_c97b9_30 : decode cJ5_append_c97b9 30 = .ok (.invokestatic 248, 3) := by decide +kernel
theorem dJ5_append_c97b9_33 : decode cJ5_append_c97b9 33 = .ok (.pop, 1) := by decide +kernel
theorem dJ5_append_c97b9_34 : decode cJ5_append_c97b9 34 = .ok (.goto 14, 3) := by decide +kernel
theorem dJ5_append_c97b9_37 : decode cJ5_append_c97b9 37 = .ok (.iload_n 1, 1) := by decide +kernel
theorem dJ5_append_c97b9_38 : decode cJ5_append_c97b9 38 = .ok (.iload_n 2, 1) := by decide +kernel
theorem dJ5_append_c97b9_39 : decode cJ5_append_c97b9 39 = .ok (.iload_n 3, 1) := by decide +kernel
theorem dJ5_append_c97b9_40 : decode cJ5_append_c97b9 40 = .ok (.aload_n 0, 1) := by decide +kernel
theorem dJ5_append_c97b9_41 : decode cJ5_append_c97b9 41 = .ok (.getfield 15, 3) := by decide +kernel
theorem dJ5_append_c97b9_44 : decode cJ5_append_c97b9 44 = .ok (.invokestatic 251, 3) := by decide +kernel
theorem dJ5_append_c97b9_47 : decode cJ5_append_c97b9 47 = .ok (.pop, 1) := by decide +kernel
theorem dJ5_append_c97b9_48 : decode cJ5_append_c97b9 48 = .ok (.aload_n 0, 1) := by decide +kernel
theorem dJ5_append_c97b9_49 : decode cJ5_append_c97b9 49 = .ok (.iload_n 3, 1) := by decide +kernel
theorem dJ5_append_c97b9_50 : decode cJ5_append_c97b9 50 = .ok (.putfield 79, 3) := by decide +kernel
theorem dJ5_append_c97b9_53 : decode cJ5_append_c97b9 53 = .ok (.aload_n 0, 1) := by decide +kernel
theorem dJ5_append_c97b9_54 : decode cJ5_append_c97b9 54 = .ok (.areturn, 1) := by decide +kernel
theorem dJ5_getValue_6d5f1_0 : decode cJ5_getValue_6d5f1 0 = .ok (.aload_n 0, 1) := by decide +kernel
theorem dJ5_getValue_6d5f1_1 : decode cJ5_getValue_6d5f1 1 = .ok (.getfield 15, 3) := by decide +kernel
theorem dJ5_getValue_6d5f1_4 : decode cJ5_getValue_6d5f1 4 = .ok (.areturn, 1) := by decide +kernel
theorem dJ5_isLatin1_aae02_0 : decode cJ5_isLatin1_aae02 0 = .ok (.getstatic 18, 3) := by decide +kernel
theorem dJ5_isLatin1_aae02_3 : decode cJ5_isLatin1_aae02 3 = .ok (.ifCond .eq 14, 3) := by decide +kernel
theorem dJ5_isLatin1_aae02_6 : decode cJ5_isLatin1_aae02 6 = .ok (.aload_n 0, 1) := by decide +kernel
theorem dJ5_isLatin1_aae02_7 : decode cJ5_isLatin1_aae02 7 = .ok (.getfield 22, 3) := by decide +kernel
theorem dJ5_isLatin1_aae02_10 : decode cJ5_isLatin1_aae02 10 = .ok (.ifCond .ne 7, 3) := by decide +kernel
theorem dJ5_isLatin1_aae02_13 : decode cJ5_isLatin1_aae02 13 = .ok (.iconst 1, 1) := by decide +kernel
theorem dJ5_isLatin1_aae02_14 : decode cJ5_isLatin1_aae02 14 = .ok (.goto 4, 3) := by decide +kernel
theorem dJ5_isLatin1_aae02_17 : decode cJ5_isLatin1_aae02 17 = .ok (.iconst 0, 1) := by decide +kernel
theorem dJ5_isLatin1_aae02_18 : decode cJ5_isLatin1_aae02 18 = .ok (.ireturn, 1) := by decide +kernel
theorem dJ5_inflateIfNeededFor_a7421_0 : decode cJ5_inflateIfNeededFor_a7421 0 = .ok (.getstatic 18, 3) := by decide +kernel
theorem dJ5_inflateIfNeededFor_a7421_3 : decode cJ5_inflateIfNeededFor_a7421 3 = .ok (.ifCond .eq 18, 3) := by decide +kernel
theorem dJ5_inflateIfNeededFor_a7421_6 : decode cJ5_inflateIfNeededFor_a7421 6 = .ok (.aload_n 0, 1) := by decide +kernel
theorem dJ5_inflateIfNeededFor_a7421_7 : decode cJ5_inflateIfNeededFor_a7421 7 = .ok (.getfield 22, 3) := by decide +kernel
theorem dJ5_inflateIfNeededFor_a7421_10 : decode cJ5_inflateIfNeededFor_a7421 10 = .ok (.aload_n 1, 1) := by decide +kernel
theorem dJ5_inflateIfNeededFor_a7421_11 : decode cJ5_inflateIfNeededFor_a7421 11 = .ok (.invokevirtual 40, 3) := by decide +kernel
theorem dJ5_inflateIfNeededFor_a7421_14 : decode cJ5_inflateIfNeededFor_a7421 14 = .ok (.if_icmp .eq 7, 3) := by decide +kernel
theorem dJ5_inflateIfNeededFor_a7421_17 : decode cJ5_inflateIfNeededFor_a7421 17 = .ok (.aload_n 0, 1) := by decide +kernel
theorem dJ5_inflateIfNeededFor_a7421_18 : decode cJ5_inflateIfNeededFor_a7421 18 = .ok (.invokevirtual 195, 3) := by decide +kernel
theorem dJ5_inflateIfNeededFor_a7421_21 : decode cJ5_inflateIfNeededFor_a7421 21 = .ok (.return_, 1) := by decide +kernel
theorem dJ5_putStringAt_47b60_0 : decode cJ5_putStringAt_47b60 0 = .ok (.aload_n 0, 1) := by decide +kernel
theorem dJ5_putStringAt_47b60_1 : decode cJ5_putStringAt_47b60 1 = .ok (.aload_n 2, 1) := by decide +kernel
theorem dJ5_putStringAt_47b60_2 : decode cJ5_putStringAt_47b60 2 = .ok (.invokevirtual 397, 3) := by decide +kernel
theorem dJ5_putStringAt_47b60_5 : decode cJ5_putStringAt_47b60 5 = .ok (.aload_n 2, 1) := by decide +kernel
theorem dJ5_putStringAt_47b60_6 : decode cJ5_putStringAt_47b60 6 = .ok (.aload_n 0, 1) := by decide +kernel
theorem dJ5_putStringAt_47b60_7 : decode cJ5_putStringAt_47b60 7 = .ok (.getfield 15, 3) := by decide +kernel
theorem dJ5_putStringAt_47b60_10 : decode cJ5_putStringAt_47b60 10 = .ok (.iload_n 1, 1) := by decide +kernel
theorem dJ5_putStringAt_47b60_11 : decode cJ5_putStringAt_47b60 11 = .ok (.aload_n 0, 1) := by decide +kernel
theorem dJ5_putStringAt_47b60_12 : decode cJ5_putStringAt_47b60 12 = .ok (.getfield 22, 3) := by decide +kernel
theorem dJ5_putStringAt_47b60_15 : decode cJ5_putStringAt_47b60 15 = .ok (.invokevirtual 399, 3) := by decide +kernel
theorem dJ5_putStringAt_47b60_18 : decode cJ5_putStringAt_47b60 18 = .ok (.return_, 1) := by decide +kernel
theorem dJx29ce0_ordinal_8abf5_0 : decode cJx29ce0_ordinal_8abf5 0 = .ok (.aload_n 0, 1) := by decide +kernel
theorem dJx29ce0_ordinal_8abf5_1 : decode cJx29ce0_ordinal_8abf5 1 = .ok (.getfield 7, 3) := by decide +kernel
theorem dJx29ce0_ordinal_8abf5_4 : decode cJx29ce0_ordinal_8abf5 4 = .ok (.ireturn, 1) := by decide +kernel
theorem dJ6_getChars_ba4f3_0 : decode cJ6_getChars_ba4f3 0 = .ok (.iload_n 1, 1) := by decide +kernel
theorem dJ6_getChars_ba4f3_1 : decode cJ6_getChars_ba4f3 1 = .ok (.istore 5, 2) := by decide +kernel
theorem dJ6_getChars_ba4f3_3 : decode cJ6_getChars_ba4f3 3 = .ok (.iload_n 0, 1) := by decide +kernel
theorem dJ6_getChars_ba4f3_4 : decode cJ6_getChars_ba4f3 4 = .ok (.ifCond .ge 7, 3) := by decide +kernel
theorem dJ6_getChars_ba4f3_7 : decode cJ6_getChars_ba4f3 7 = .ok (.iconst 1, 1) := by decide +kernel
theorem dJ6_getChars_ba4f3_8 : decode cJ6_getChars_ba4f3 8 = .ok (.goto 4, 3) := by decide +kernel
theorem dJ6_getChars_ba4f3_11 : decode cJ6_getChars_ba4f3 11 = .ok (.iconst 0, 1) := by decide +kernel
theorem dJ6_getChars_ba4f3_12 : decode cJ6_getChars_ba4f3 12 = .ok (.istore 6, 2) := by decide +kernel
theorem dJ6_getChars_ba4f3_14 : decode cJ6_getChars_ba4f3 14 = .ok (.iload 6, 2) := by decide +kernel
theorem dJ6_getChars_ba4f3_16 : decode cJ6_getChars_ba4f3 16 = .ok (.ifCond .ne 6, 3) := by decide +kernel
theorem dJ6_getChars_ba4f3_19 : decode cJ6_getChars_ba4f3 19 = .ok (.iload_n 0, 1) := by decide +kernel
theorem dJ6_getChars_ba4f3_20 : decode cJ6_getChars_ba4f3 20 = .ok (.ineg, 1) := by decide +kernel
theorem dJ6_getChars_ba4f3_21 : decode cJ6_getChars_ba4f3 21 = .ok (.istore_n 0, 1) := by decide +kernel
theorem dJ6_getChars_ba4f3_22 : decode cJ6_getChars_ba4f3 22 = .ok (.iload_n 0, 1) := by decide +kernel
theorem dJ6_getChars_ba4f3_23 : decode cJ6_getChars_ba4f3 23 = .ok (.bipush (-100), 2) := by decide +kernel
theorem dJ6_getChars_ba4f3_25 : decode cJ6_getChars_ba4f3 25 = .ok (.if_icmp .gt 47, 3) := by decide +kernel
theorem dJ6_getChars_ba4f3_28 : decode cJ6_getChars_ba4f3 28 = .ok (.iload_n 0, 1) := by decide +kernel
theorem dJ6_getChars_ba4f3_29 : decode cJ6_getChars_ba4f3 29 = .ok (.bipush 100, 2) := by decide +kernel
theorem dJ6_getChars_ba4f3_31 : decode cJ6_getChars_ba4f3 31 = .ok (.idiv, 1) := by decide +kernel
theorem dJ6_getChars_ba4f3_32 : decode cJ6_getChars_ba4f3 32 = .ok (.istore_n 3, 1) := by decide +kernel
theorem dJ6_getChars_ba4f3_33 : decode cJ6_getChars_ba4f3 33 = .ok (.iload_n 3, 1) := by decide +kernel
theorem dJ6_getChars_ba4f3_34 : decode cJ6_getChars_ba4f3 34 = .ok (.bipush 100, 2) := by decide +kernel
theorem dJ6_getChars_ba4f3_36 : decode cJ6_getChars_ba4f3 36 = .ok (.imul, 1) := by decide +kernel
theorem dJ6_getChars_ba4f3_37 : decode cJ6_getChars_ba4f3 37 = .ok (.iload_n 0, 1) := by decide +kernel
theorem dJ6_getChars_ba4f3_38 : decode cJ6_getChars_ba4f3 38 = .ok (.isub, 1) := by decide +kernel
theorem dJ6_getChars_ba4f3_39 : decode cJ6_getChars_ba4f3 39 = .ok (.istore 4, 2) := by decide +kernel
theorem dJ6_getChars_ba4f3_41 : decode cJ6_getChars_ba4f3 41 = .ok (.iload_n 3, 1) := by decide +kernel
theorem dJ6_getChars_ba4f3_42 : decode cJ6_getChars_ba4f3 42 = .ok (.istore_n 0, 1) := by decide +kernel
theorem dJ6_getChars_ba4f3_43 : decode cJ6_getChars_ba4f3 43 = .ok (.aload_n 2, 1) := by decide +kernel
theorem dJ6_getChars_ba4f3_44 : decode cJ6_getChars_ba4f3 44 = .ok (.iinc 5 (-1), 3) := by decide +kernel
theorem dJ6_getChars_ba4f3_47 : decode cJ6_getChars_ba4f3 47 = .ok (.iload 5, 2) := by decide +kernel
theorem dJ6_getChars_ba4f3_49 : decode cJ6_getChars_ba4f3 49 = .ok (.getstatic 83, 3) := by decide +kernel
theorem dJ6_getChars_ba4f3_52 : decode cJ6_getChars_ba4f3 52 = .ok (.iload 4, 2) := by decide +kernel
theorem dJ6_getChars_ba4f3_54 : decode cJ6_getChars_ba4f3 54 = .ok (.baload, 1) := by decide +kernel
theorem dJ6_getChars_ba4f3_55 : decode cJ6_getChars_ba4f3 55 = .ok (.bastore, 1) := by decide +kernel
theorem dJ6_getChars_ba4f3_56 : decode cJ6_getChars_ba4f3 56 = .ok (.aload_n 2, 1) := by decide +kernel
theorem dJ6_getChars_ba4f3_57 : decode cJ6_getChars_ba4f3 57 = .ok (.iinc 5 (-1), 3) := by decide +kernel
theorem dJ6_getChars_ba4f3_60 : decode cJ6_getChars_ba4f3 60 = .ok (.iload 5, 2) := by decide +kernel
theorem dJ6_getChars_ba4f3_62 : decode cJ6_getChars_ba4f3 62 = .ok (.getstatic 87, 3) := by decide +kernel
theorem dJ6_getChars_ba4f3_65 : decode cJ6_getChars_ba4f3 65 = .ok (.iload 4, 2) := by decide +kernel
theorem dJ6_getChars_ba4f3_67 : decode cJ6_getChars_ba4f3 67 = .ok (.baload, 1) := by decide +kernel
theorem dJ6_getChars_ba4f3_68 : decode cJ6_getChars_ba4f3 68 = .ok (.bastore, 1) := by decide +kernel
theorem dJ6_getChars_ba4f3_69 : decode cJ6_getChars_ba4f3 69 = .ok (.goto (-47), 3) := by decide +kernel
theorem dJ6_getChars_ba4f3_72 : decode cJ6_getChars_ba4f3 72 = .ok (.aload_n 2, 1) := by decide +kernel
theorem dJ6_getChars_ba4f3_73 : decode cJ6_getChars_ba4f3 73 = .ok (.iinc 5 (-1), 3) := by decide +kernel
theorem dJ6_getChars_ba4f3_76 : decode cJ6_getChars_ba4f3 76 = .ok (.iload 5, 2) := by decide +kernel
theorem dJ6_getChars_ba4f3_78 : decode cJ6_getChars_ba4f3 78 = .ok (.getstatic 83, 3) := by decide +kernel
theorem dJ6_getChars_ba4f3_81 : decode cJ6_getChars_ba4f3 81 = .ok (.iload_n 0, 1) := by decide +kernel
theorem dJ6_getChars_ba4f3_82 : decode cJ6_getChars_ba4f3 82 = .ok (.ineg, 1) := by decide +kernel
theorem dJ6_getChars_ba4f3_83 : decode cJ6_getChars_ba4f3 83 = .ok (.baload, 1) := by decide +kernel
theorem dJ6_getChars_ba4f3_84 : decode cJ6_getChars_ba4f3 84 = .ok (.bastore, 1) := by decide +kernel
theorem dJ6_getChars_ba4f3_85 : decode cJ6_getChars_ba4f3 85 = .ok (.iload_n 0, 1) := by decide +kernel
theorem dJ6_getChars_ba4f3_86 : decode cJ6_getChars_ba4f3 86 = .ok (.bipush (-9), 2) := by decide +kernel
theorem dJ6_getChars_ba4f3_88 : decode cJ6_getChars_ba4f3 88 = .ok (.if_icmp .ge 16, 3) := by decide +kernel
theorem dJ6_getChars_ba4f3_91 : decode cJ6_getChars_ba4f3 91 = .ok (.aload_n 2, 1) := by decide +kernel
theorem dJ6_getChars_ba4f3_92 : decode cJ6_getChars_ba4f3 92 = .ok (.iinc 5 (-1), 3) := by decide +kernel
theorem dJ6_getChars_ba4f3_95 : decode cJ6_getChars_ba4f3 95 = .ok (.iload 5, 2) := by decide +kernel
theorem dJ6_getChars_ba4f3_97 : decode cJ6_getChars_ba4f3 97 = .ok (.getstatic 87, 3) := by decide +kernel
theorem dJ6_getChars_ba4f3_100 : decode cJ6_getChars_ba4f3 100 = .ok (.iload_n 0, 1) := by decide +kernel
theorem dJ6_getChars_ba4f3_101 : decode cJ6_getChars_ba4f3 101 = .ok (.ineg, 1) := by decide +kernel
theorem dJ6_getChars_ba4f3_102 : decode cJ6_getChars_ba4f3 102 = .ok (.baload, 1) := by decide +kernel
theorem dJ6_getChars_ba4f3_103 : decode cJ6_getChars_ba4f3 103 = .ok (.bastore, 1) := by decide +kernel
theorem dJ6_getChars_ba4f3_104 : decode cJ6_getChars_ba4f3 104 = .ok (.iload 6, 2) := by decide +kernel
theorem dJ6_getChars_ba4f3_106 : decode cJ6_getChars_ba4f3 106 = .ok (.ifCond .eq 12, 3) := by decide +kernel
theorem dJ6_getChars_ba4f3_109 : decode cJ6_getChars_ba4f3 109 = .ok (.aload_n 2, 1) := by decide +kernel
theorem dJ6_getChars_ba4f3_110 : decode cJ6_getChars_ba4f3 110 = .ok (.iinc 5 (-1), 3) := by decide +kernel
theorem dJ6_getChars_ba4f3_113 : decode cJ6_getChars_ba4f3 113 = .ok (.iload 5, 2) := by decide +kernel
theorem dJ6_getChars_ba4f3_115 : decode cJ6_getChars_ba4f3 115 = .ok (.bipush 45, 2) := by decide +kernel
theorem dJ6_getChars_ba4f3_117 : decode cJ6_getChars_ba4f3 117 = .ok (.bastore, 1) := by decide +kernel
theorem dJ6_getChars_ba4f3_118 : decode cJ6_getChars_ba4f3 118 = .ok (.iload 5, 2) := by decide +kernel
theorem dJ6_getChars_ba4f3_120 : decode cJ6_getChars_ba4f3 120 = .ok (.ireturn, 1) := by decide +kernel
theorem dJ6_stringSize_0f7a4_0 : decode cJ6_stringSize_0f7a4 0 = .ok (.iconst 1, 1) := by decide +kernel
theorem dJ6_stringSize_0f7a4_1 : decode cJ6_stringSize_0f7a4 1 = .ok (.istore_n 1, 1) := by decide +kernel
theorem dJ6_stringSize_0f7a4_2 : decode cJ6_stringSize_0f7a4 2 = .ok (.iload_n 0, 1) := by decide +kernel
theorem dJ6_stringSize_0f7a4_3 : decode cJ6_stringSize_0f7a4 3 = .ok (.ifCond .lt 8, 3) := by decide +kernel
theorem dJ6_stringSize_0f7a4_6 : decode cJ6_stringSize_0f7a4 6 = .ok (.iconst 0, 1) := by decide +kernel
theorem dJ6_stringSize_0f7a4_7 : decode cJ6_stringSize_0f7a4 7 = .ok (.istore_n 1, 1) := by decide +kernel
theorem dJ6_stringSize_0f7a4_8 : decode cJ6_stringSize_0f7a4 8 = .ok (.iload_n 0, 1) := by decide +kernel
theorem dJ6_stringSize_0f7a4_9 : decode cJ6_stringSize_0f7a4 9 = .ok (.ineg, 1) := by decide +kernel
theorem dJ6_stringSize_0f7a4_10 : decode cJ6_stringSize_0f7a4 10 = .ok (.istore_n 0, 1) := by decide +kernel
theorem dJ6_stringSize_0f7a4_11 : decode cJ6_stringSize_0f7a4 11 = .ok (.bipush (-10), 2) := by decide +kernel
theorem dJ6_stringSize_0f7a4_13 : decode cJ6_stringSize_0f7a4 13 = .ok (.istore_n 2, 1) := by decide +kernel
theorem dJ6_stringSize_0f7a4_14 : decode cJ6_stringSize_0f7a4 14 = .ok (.iconst 1, 1) := by decide +kernel
theorem dJ6_stringSize_0f7a4_15 : decode cJ6_stringSize_0f7a4 15 = .ok (.istore_n 3, 1) := by decide +kernel
theorem dJ6_stringSize_0f7a4_16 : decode cJ6_stringSize_0f7a4 16 = .ok (.iload_n 3, 1) := by decide +kernel
theorem dJ6_stringSize_0f7a4_17 : decode cJ6_stringSize_0f7a4 17 = .ok (.bipush 10, 2) := by decide +kernel
theorem dJ6_stringSize_0f7a4_19 : decode cJ6_stringSize_0f7a4 19 = .ok (.if_icmp .ge 23, 3) := by decide +kernel
theorem dJ6_stringSize_0f7a4_22 : decode cJ6_stringSize_0f7a4 22 = .ok (.iload_n 0, 1) := by decide +kernel
theorem dJ6_stringSize_0f7a4_23 : decode cJ6_stringSize_0f7a4 23 = .ok (.iload_n 2, 1) := by decide +kernel
theorem dJ6_stringSize_0f7a4_24 : decode cJ6_stringSize_0f7a4 24 = .ok (.if_icmp .le 7, 3) := by decide +kernel
theorem dJ6_stringSize_0f7a4_27 : decode cJ6_stringSize_0f7a4 27 = .ok (.iload_n 3, 1) := by decide +kernel
theorem dJ6_stringSize_0f7a4_28 : decode cJ6_stringSize_0f7a4 28 = .ok (.iload_n 1, 1) := by decide +kernel
theorem dJ6_stringSize_0f7a4_29 : decode cJ6_stringSize_0f7a4 29 = .ok (.iadd, 1) := by decide +kernel
theorem dJ6_stringSize_0f7a4_30 : decode cJ6_stringSize_0f7a4 30 = .ok (.ireturn, 1) := by decide +kernel
theorem dJ6_stringSize_0f7a4_31 : decode cJ6_stringSize_0f7a4 31 = .ok (.bipush 10, 2) := by decide +kernel
theorem dJ6_stringSize_0f7a4_33 : decode cJ6_stringSize_0f7a4 33 = .ok (.iload_n 2, 1) := by decide +kernel
theorem dJ6_stringSize_0f7a4_34 : decode cJ6_stringSize_0f7a4 34 = .ok (.imul, 1) := by decide +kernel
theorem dJ6_stringSize_0f7a4_35 : decode cJ6_stringSize_0f7a4 35 = .ok (.istore_n 2, 1) := by decide +kernel
theorem dJ6_stringSize_0f7a4_36 : decode cJ6_stringSize_0f7a4 36 = .ok (.iinc 3 1, 3) := by decide +kernel
theorem dJ6_stringSize_0f7a4_39 : decode cJ6_stringSize_0f7a4 39 = .ok (.goto (-23), 3) := by decide +kernel
theorem dJ6_stringSize_0f7a4_42 : decode cJ6_stringSize_0f7a4 42 = .ok (.bipush 10, 2) := by decide +kernel
theorem dJ6_stringSize_0f7a4_44 : decode cJ6_stringSize_0f7a4 44 = .ok (.iload_n 1, 1) := by decide +kernel
theorem dJ6_stringSize_0f7a4_45 : decode cJ6_stringSize_0f7a4 45 = .ok (.iadd, 1) := by decide +kernel
theorem dJ6_stringSize_0f7a4_46 : decode cJ6_stringSize_0f7a4 46 = .ok (.ireturn, 1) := by decide +kernel
theorem dJ9_max_7cf53_0 : decode cJ9_max_7cf53 0 = .ok (.iload_n 0, 1) := by decide +kernel
theorem dJ9_max_7cf53_1 : decode cJ9_max_7cf53 1 = .ok (.iload_n 1, 1) := by decide +kernel
theorem dJ9_max_7cf53_2 : decode cJ9_max_7cf53 2 = .ok (.if_icmp .lt 7, 3) := by decide +kernel
theorem dJ9_max_7cf53_5 : decode cJ9_max_7cf53 5 = .ok (.iload_n 0, 1) := by decide +kernel
theorem dJ9_max_7cf53_6 : decode cJ9_max_7cf53 6 = .ok (.goto 4, 3) := by decide +kernel
theorem dJ9_max_7cf53_9 : decode cJ9_max_7cf53 9 = .ok (.iload_n 1, 1) := by decide +kernel
theorem dJ9_max_7cf53_10 : decode cJ9_max_7cf53 10 = .ok (.ireturn, 1) := by decide +kernel
theorem dJ9_min_7cf53_0 : decode cJ9_min_7cf53 0 = .ok (.iload_n 0, 1) := by decide +kernel
theorem dJ9_min_7cf53_1 : decode cJ9_min_7cf53 1 = .ok (.iload_n 1, 1) := by decide +kernel
theorem dJ9_min_7cf53_2 : decode cJ9_min_7cf53 2 = .ok (.if_icmp .gt 7, 3) := by decide +kernel
theorem dJ9_min_7cf53_5 : decode cJ9_min_7cf53 5 = .ok (.iload_n 0, 1) := by decide +kernel
theorem dJ9_min_7cf53_6 : decode cJ9_min_7cf53 6 = .ok (.goto 4, 3) := by decide +kernel
theorem dJ9_min_7cf53_9 : decode cJ9_min_7cf53 9 = .ok (.iload_n 1, 1) := by decide +kernel
theorem dJ9_min_7cf53_10 : decode cJ9_min_7cf53 10 = .ok (.ireturn, 1) := by decide +kernel
theorem dJ0_init_81219_0 : decode cJ0_init_81219 0 = .ok (.aload_n 0, 1) := by decide +kernel
theorem dJ0_init_81219_1 : decode cJ0_init_81219 1 = .ok (.aload_n 1, 1) := by decide +kernel
theorem dJ0_init_81219_2 : decode cJ0_init_81219 2 = .ok (.aconst_null, 1) := by decide +kernel
theorem dJ0_init_81219_3 : decode cJ0_init_81219 3 = .ok (.invokespecial 489, 3) := by decide +kernel
theorem dJ0_init_81219_6 : decode cJ0_init_81219 6 = .ok (.return_, 1) := by decide +kernel
theorem dJ0_length_8abf5_0 : decode cJ0_length_8abf5 0 = .ok (.aload_n 0, 1) := by decide +kernel
theorem dJ0_length_8abf5_1 : decode cJ0_length_8abf5 1 = .ok (.getfield 9, 3) := by decide +kernel
theorem dJ0_length_8abf5_4 : decode cJ0_length_8abf5 4 = .ok (.arraylength, 1) := by decide +kernel
theorem dJ0_length_8abf5_5 : decode cJ0_length_8abf5 5 = .ok (.aload_n 0, 1) := by decide +kernel
theorem dJ0_length_8abf5_6 : decode cJ0_length_8abf5 6 = .ok (.invokevirtual 335, 3) := by decide +kernel
theorem dJ0_length_8abf5_9 : decode cJ0_length_8abf5 9 = .ok (.ishr, 1) := by decide +kernel
theorem dJ0_length_8abf5_10 : decode cJ0_length_8abf5 10 = .ok (.ireturn, 1) := by decide +kernel
theorem dJ0_charAt_5068e_0 : decode cJ0_charAt_5068e 0 = .ok (.aload_n 0, 1) := by decide +kernel
theorem dJ0_charAt_5068e_1 : decode cJ0_charAt_5068e 1 = .ok (.invokevirtual 492, 3) := by decide +kernel
theorem dJ0_charAt_5068e_4 : decode cJ0_charAt_5068e 4 = .ok (.ifCond .eq 12, 3) := by decide +kernel
theorem dJ0_charAt_5068e_7 : decode cJ0_charAt_5068e 7 = .ok (.aload_n 0, 1) := by decide +kernel
theorem dJ0_charAt_5068e_8 : decode cJ0_charAt_5068e 8 = .ok (.getfield 9, 3) := by decide +kernel
theorem dJ0_charAt_5068e_11 : decode cJ0_charAt_5068e 11 = .ok (.iload_n 1, 1) := by decide +kernel
theorem dJ0_charAt_5068e_12 : decode cJ0_charAt_5068e 12 = .ok (.invokestatic 495, 3) := by decide +kernel
theorem dJ0_charAt_5068e_15 : decode cJ0_charAt_5068e 15 = .ok (.ireturn, 1) := by decide +kernel
theorem dJ0_charAt_5068e_16 : decode cJ0_charAt_5068e 16 = .ok (.aload_n 0, 1) := by decide +kernel
theorem dJ0_charAt_5068e_17 : decode cJ0_charAt_5068e 17 = .ok (.getfield 9, 3) := by decide +kernel
theorem dJ0_charAt_5068e_20 : decode cJ0_charAt_5068e 20 = .ok (.iload_n 1, 1) := by decide +kernel
theorem dJ0_charAt_5068e_21 : decode cJ0_charAt_5068e 21 = .ok (.invokestatic 498, 3) := by decide +kernel
theorem dJ0_charAt_5068e_24 : decode cJ0_charAt_5068e 24 = .ok (.ireturn, 1) := by decide +kernel
theorem dJ0_getBytes_840e7_0 : decode cJ0_getBytes_840e7 0 = .ok (.aload_n 0, 1) := by decide +kernel
theorem dJ0_getBytes_840e7_1 : decode cJ0_getBytes_840e7 1 = .ok (.invokevirtual 335, 3) := by decide +kernel
theorem dJ0_getBytes_840e7_4 : decode cJ0_getBytes_840e7 4 = .ok (.iload_n 3, 1) := by decide +kernel
theorem dJ0_getBytes_840e7_5 : decode cJ0_getBytes_840e7 5 = .ok (.if_icmp .ne 23, 3) := by decide +kernel
theorem dJ0_getBytes_840e7_8 : decode cJ0_getBytes_840e7 8 = .ok (.aload_n 0, 1) := by decide +kernel
theorem dJ0_getBytes_840e7_9 : decode cJ0_getBytes_840e7 9 = .ok (.getfield 9, 3) := by decide +kernel
theorem dJ0_getBytes_840e7_12 : decode cJ0_getBytes_840e7 12 = .ok (.iconst 0, 1) := by decide +kernel
theorem dJ0_getBytes_840e7_13 : decode cJ0_getBytes_840e7 13 = .ok (.aload_n 1, 1) := by decide +kernel
theorem dJ0_getBytes_840e7_14 : decode cJ0_getBytes_840e7 14 = .ok (.iload_n 2, 1) := by decide +kernel
theorem dJ0_getBytes_840e7_15 : decode cJ0_getBytes_840e7 15 = .ok (.iload_n 3, 1) := by decide +kernel
theorem dJ0_getBytes_840e7_16 : decode cJ0_getBytes_840e7 16 = .ok (.ishl, 1) := by decide +kernel
theorem dJ0_getBytes_840e7_17 : decode cJ0_getBytes_840e7 17 = .ok (.aload_n 0, 1) := by decide +kernel
theorem dJ0_getBytes_840e7_18 : decode cJ0_getBytes_840e7 18 = .ok (.getfield 9, 3) := by decide +kernel
theorem dJ0_getBytes_840e7_21 : decode cJ0_getBytes_840e7 21 = .ok (.arraylength, 1) := by decide +kernel
theorem dJ0_getBytes_840e7_22 : decode cJ0_getBytes_840e7 22 = .ok (.invokestatic 212, 3) := by decide +kernel
theorem dJ0_getBytes_840e7_25 : decode cJ0_getBytes_840e7 25 = .ok (.goto 18, 3) := by decide +kernel
theorem dJ0_getBytes_840e7_28 : decode cJ0_getBytes_840e7 28 = .ok (.aload_n 0, 1) := by decide +kernel
theorem dJ0_getBytes_840e7_29 : decode cJ0_getBytes_840e7 29 = .ok (.getfield 9, 3) := by decide +kernel
theorem dJ0_getBytes_840e7_32 : decode cJ0_getBytes_840e7 32 = .ok (.iconst 0, 1) := by decide +kernel
theorem dJ0_getBytes_840e7_33 : decode cJ0_getBytes_840e7 33 = .ok (.aload_n 1, 1) := by decide +kernel
theorem dJ0_getBytes_840e7_34 : decode cJ0_getBytes_840e7 34 = .ok (.iload_n 2, 1) := by decide +kernel
theorem dJ0_getBytes_840e7_35 : decode cJ0_getBytes_840e7 35 = .ok (.aload_n 0, 1) := by decide +kernel
theorem dJ0_getBytes_840e7_36 : decode cJ0_getBytes_840e7 36 = .ok (.getfield 9, 3) := by decide +kernel
theorem dJ0_getBytes_840e7_39 : decode cJ0_getBytes_840e7 39 = .ok (.arraylength, 1) := by decide +kernel
theorem dJ0_getBytes_840e7_40 : decode cJ0_getBytes_840e7 40 = .ok (.invokestatic 106, 3) := by decide +kernel
theorem dJ0_getBytes_840e7_43 : decode cJ0_getBytes_840e7 43 = .ok (.return_, 1) := by decide +kernel
theorem dJ0_init_db425_0 : decode cJ0_init_db425 0 = .ok (.aload_n 0, 1) := by decide +kernel
theorem dJ0_init_db425_1 : decode cJ0_init_db425 1 = .ok (.invokespecial 1, 3) := by decide +kernel
theorem dJ0_init_db425_4 : decode cJ0_init_db425 4 = .ok (.aload_n 1, 1) := by decide +kernel
theorem dJ0_init_db425_5 : decode cJ0_init_db425 5 = .ok (.invokevirtual 552, 3) := by decide +kernel
theorem dJ0_init_db425_8 : decode cJ0_init_db425 8 = .ok (.astore_n 3, 1) := by decide +kernel
theorem dJ0_init_db425_9 : decode cJ0_init_db425 9 = .ok (.aload_n 1, 1) := by decide +kernel
theorem dJ0_init_db425_10 : decode cJ0_init_db425 10 = .ok (.invokevirtual 549, 3) := by decide +kernel
theorem dJ0_init_db425_13 : decode cJ0_init_db425 13 = .ok (.istore 4, 2) := by decide +kernel
theorem dJ0_init_db425_15 : decode cJ0_init_db425 15 = .ok (.aload_n 1, 1) := by decide +kernel
theorem dJ0_init_db425_16 : decode cJ0_init_db425 16 = .ok (.invokevirtual 1047, 3) := by decide +kernel
theorem dJ0_init_db425_19 : decode cJ0_init_db425 19 = .ok (.ifCond .eq 22, 3) := by decide +kernel
theorem dJ0_init_db425_22 : decode cJ0_init_db425 22 = .ok (.aload_n 0, 1) := by decide +kernel
theorem dJ0_init_db425_23 : decode cJ0_init_db425 23 = .ok (.iconst 0, 1) := by decide +kernel
theorem dJ0_init_db425_24 : decode cJ0_init_db425 24 = .ok (.putfield 15, 3) := by decide +kernel
theorem dJ0_init_db425_27 : decode cJ0_init_db425 27 = .ok (.aload_n 0, 1) := by decide +kernel
theorem dJ0_init_db425_28 : decode cJ0_init_db425 28 = .ok (.aload_n 3, 1) := by decide +kernel
theorem dJ0_init_db425_29 : decode cJ0_init_db425 29 = .ok (.iconst 0, 1) := by decide +kernel
theorem dJ0_init_db425_30 : decode cJ0_init_db425 30 = .ok (.iload 4, 2) := by decide +kernel
theorem dJ0_init_db425_32 : decode cJ0_init_db425 32 = .ok (.invokestatic 54, 3) := by decide +kernel
theorem dJ0_init_db425_35 : decode cJ0_init_db425 35 = .ok (.putfield 9, 3) := by decide +kernel
theorem dJ0_init_db425_38 : decode cJ0_init_db425 38 = .ok (.goto 59, 3) := by decide +kernel
theorem dJ0_init_db425_41 : decode cJ0_init_db425 41 = .ok (.getstatic 38, 3) := by decide +kernel
theorem dJ0_init_db425_44 : decode cJ0_init_db425 44 = .ok (.ifCond .eq 35, 3) := by decide +kernel
theorem dJ0_init_db425_47 : decode cJ0_init_db425 47 = .ok (.aload_n 1, 1) := by decide +kernel
theorem dJ0_init_db425_48 : decode cJ0_init_db425 48 = .ok (.getfield 1048, 3) := by decide +kernel
theorem dJ0_init_db425_51 : decode cJ0_init_db425 51 = .ok (.ifCond .eq 28, 3) := by decide +kernel
theorem dJ0_init_db425_54 : decode cJ0_init_db425 54 = .ok (.aload_n 0, 1) := by decide +kernel
theorem dJ0_init_db425_55 : decode cJ0_init_db425 55 = .ok (.aload_n 3, 1) := by decide +kernel
theorem dJ0_init_db425_56 : decode cJ0_init_db425 56 = .ok (.iconst 0, 1) := by decide +kernel
theorem dJ0_init_db425_57 : decode cJ0_init_db425 57 = .ok (.iload 4, 2) := by decide +kernel
theorem dJ0_init_db425_59 : decode cJ0_init_db425 59 = .ok (.invokestatic 1051, 3) := by decide +kernel
theorem dJ0_init_db425_62 : decode cJ0_init_db425 62 = .ok (.putfield 9, 3) := by decide +kernel
theorem dJ0_init_db425_65 : decode cJ0_init_db425 65 = .ok (.aload_n 0, 1) := by decide +kernel
theorem dJ0_init_db425_66 : decode cJ0_init_db425 66 = .ok (.aload_n 0, 1) := by decide +kernel
theorem dJ0_init_db425_67 : decode cJ0_init_db425 67 = .ok (.getfield 9, 3) := by decide +kernel
theorem dJ0_init_db425_70 : decode cJ0_init_db425 70 = .ok (.iload 4, 2) := by decide +kernel
theorem dJ0_init_db425_72 : decode cJ0_init_db425 72 = .ok (.invokestatic 47, 3) := by decide +kernel
theorem dJ0_init_db425_75 : decode cJ0_init_db425 75 = .ok (.putfield 15, 3) := by decide +kernel
theorem dJ0_init_db425_78 : decode cJ0_init_db425 78 = .ok (.return_, 1) := by decide +kernel
theorem dJ0_init_db425_79 : decode cJ0_init_db425 79 = .ok (.aload_n 0, 1) := by decide +kernel
theorem dJ0_init_db425_80 : decode cJ0_init_db425 80 = .ok (.iconst 1, 1) := by decide +kernel
theorem dJ0_init_db425_81 : decode cJ0_init_db425 81 = .ok (.putfield 15, 3) := by decide +kernel
theorem dJ0_init_db425_84 : decode cJ0_init_db425 84 = .ok (.aload_n 0, 1) := by decide +kernel
theorem dJ0_init_db425_85 : decode cJ0_init_db425 85 = .ok (.aload_n 3, 1) := by decide +kernel
theorem dJ0_init_db425_86 : decode cJ0_init_db425 86 = .ok (.iconst 0, 1) := by decide +kernel
theorem dJ0_init_db425_87 : decode cJ0_init_db425 87 = .ok (.iload 4, 2) := by decide +kernel
theorem dJ0_init_db425_89 : decode cJ0_init_db425 89 = .ok (.iconst 1, 1) := by decide +kernel
theorem dJ0_init_db425_90 : decode cJ0_init_db425 90 = .ok (.ishl, 1) := by decide +kernel
theorem dJ0_init_db425_91 : decode cJ0_init_db425 91 = .ok (.invokestatic 54, 3) := by decide +kernel
theorem dJ0_init_db425_94 : decode cJ0_init_db425 94 = .ok (.putfield 9, 3) := by decide +kernel
theorem dJ0_init_db425_97 : decode cJ0_init_db425 97 = .ok (.return_, 1) := by decide +kernel
theorem dJ0_coder_7d493_0 : decode cJ0_coder_7d493 0 = .ok (.getstatic 38, 3) := by decide +kernel
theorem dJ0_coder_7d493_3 : decode cJ0_coder_7d493 3 = .ok (.ifCond .eq 10, 3) := by decide +kernel
theorem dJ0_coder_7d493_6 : decode cJ0_coder_7d493 6 = .ok (.aload_n 0, 1) := by decide +kernel
theorem dJ0_coder_7d493_7 : decode cJ0_coder_7d493 7 = .ok (.getfield 15, 3) := by decide +kernel
theorem dJ0_coder_7d493_10 : decode cJ0_coder_7d493 10 = .ok (.goto 4, 3) := by decide +kernel
theorem dJ0_coder_7d493_13 : decode cJ0_coder_7d493 13 = .ok (.iconst 1, 1) := by decide +kernel
theorem dJ0_coder_7d493_14 : decode cJ0_coder_7d493 14 = .ok (.ireturn, 1) := by decide +kernel
theorem dJ0_isLatin1_aae02_0 : decode cJ0_isLatin1_aae02 0 = .ok (.getstatic 38, 3) := by decide +kernel
theorem dJ0_isLatin1_aae02_3 : decode cJ0_isLatin1_aae02 3 = .ok (.ifCond .eq 14, 3) := by decide +kernel
theorem dJ0_isLatin1_aae02_6 : decode cJ0_isLatin1_aae02 6 = .ok (.aload_n 0, 1) := by decide +kernel
theorem dJ0_isLatin1_aae02_7 : decode cJ0_isLatin1_aae02 7 = .ok (.getfield 15, 3) := by decide +kernel
theorem dJ0_isLatin1_aae02_10 : decode cJ0_isLatin1_aae02 10 = .ok (.ifCond .ne 7, 3) := by decide +kernel
theorem dJ0_isLatin1_aae02_13 : decode cJ0_isLatin1_aae02 13 = .ok (.iconst 1, 1) := by decide +kernel
theorem dJ0_isLatin1_aae02_14 : decode cJ0_isLatin1_aae02 14 = .ok (.goto 4, 3) := by decide +kernel
theorem dJ0_isLatin1_aae02_17 : decode cJ0_isLatin1_aae02 17 = .ok (.iconst 0, 1) := by decide +kernel
theorem dJ0_isLatin1_aae02_18 : decode cJ0_isLatin1_aae02 18 = .ok (.ireturn, 1) := by decide +kernel
theorem dJ0_checkIndex_df160_0 : decode cJ0_checkIndex_df160 0 = .ok (.iload_n 0, 1) := by decide +kernel
theorem dJ0_checkIndex_df160_1 : decode cJ0_checkIndex_df160 1 = .ok (.iload_n 1, 1) := by decide +kernel
theorem dJ0_checkIndex_df160_2 : decode cJ0_checkIndex_df160 2 = .ok (.getstatic 1053, 3) := by decide +kernel
theorem dJ0_checkIndex_df160_5 : decode cJ0_checkIndex_df160 5 = .ok (.invokestatic 1059, 3) := by decide +kernel
theorem dJ0_checkIndex_df160_8 : decode cJ0_checkIndex_df160 8 = .ok (.pop, 1) := by decide +kernel
theorem dJ0_checkIndex_df160_9 : decode cJ0_checkIndex_df160 9 = .ok (.return_, 1) := by decide +kernel
theorem dJ0_checkBoundsOffCount_cabcc_0 : decode cJ0_checkBoundsOffCount_cabcc 0 = .ok (.iload_n 0, 1) := by decide +kernel
theorem dJ0_checkBoundsOffCount_cabcc_1 : decode cJ0_checkBoundsOffCount_cabcc 1 = .ok (.iload_n 1, 1) := by decide +kernel
theorem dJ0_checkBoundsOffCount_cabcc_2 : decode cJ0_checkBoundsOffCount_cabcc 2 = .ok (.iload_n 2, 1) := by decide +kernel
theorem dJ0_checkBoundsOffCount_cabcc_3 : decode cJ0_checkBoundsOffCount_cabcc 3 = .ok (.getstatic 1053, 3) := by decide +kernel
theorem dJ0_checkBoundsOffCount_cabcc_6 : decode cJ0_checkBoundsOffCount_cabcc 6 = .ok (.invokestatic 1065, 3) := by decide +kernel
theorem dJ0_checkBoundsOffCount_cabcc_9 : decode cJ0_checkBoundsOffCount_cabcc 9 = .ok (.ireturn, 1) := by decide +kernel
theorem dJ0_checkBoundsBeginEnd_23922_0 : decode cJ0_checkBoundsBeginEnd_23922 0 = .ok (.iload_n 0, 1) := by decide +kernel
theorem dJ0_checkBoundsBeginEnd_23922_1 : decode cJ0_checkBoundsBeginEnd_23922 1 = .ok (.iload_n 1, 1) := by decide +kernel
theorem dJ0_checkBoundsBeginEnd_23922_2 : decode cJ0_checkBoundsBeginEnd_23922 2 = .ok (.iload_n 2, 1) := by decide +kernel
theorem dJ0_checkBoundsBeginEnd_23922_3 : decode cJ0_checkBoundsBeginEnd_23922 3 = .ok (.getstatic 1053, 3) := by decide +kernel
theorem dJ0_checkBoundsBeginEnd_23922_6 : decode cJ0_checkBoundsBeginEnd_23922 6 = .ok (.invokestatic 1062, 3) := by decide +kernel
theorem dJ0_checkBoundsBeginEnd_23922_9 : decode cJ0_checkBoundsBeginEnd_23922 9 = .ok (.pop, 1) := by decide +kernel
theorem dJ0_checkBoundsBeginEnd_23922_10 : decode cJ0_checkBoundsBeginEnd_23922 10 = .ok (.return_, 1) := by decide +kernel
theorem dJ4_init_da8c8_0 : decode cJ4_init_da8c8 0 = .ok (.aload_n 0, 1) := by decide +kernel
theorem dJ4_init_da8c8_1 : decode cJ4_init_da8c8 1 = .ok (.bipush 16, 2) := by decide +kernel
theorem dJ4_init_da8c8_3 : decode cJ4_init_da8c8 3 = .ok (.invokespecial 1, 3) := by decide +kernel
theorem dJ4_init_da8c8_6 : decode cJ4_init_da8c8 6 = .ok (.return_, 1) := by decide +kernel
theorem dJ4_append_15ec4_0 : decode cJ4_append_15ec4 0 = .ok (.aload_n 0, 1) := by decide +kernel
theorem dJ4_append_15ec4_1 : decode cJ4_append_15ec4 1 = .ok (.aload_n 1, 1) := by decide +kernel
theorem dJ4_append_15ec4_2 : decode cJ4_append_15ec4 2 = .ok (.invokespecial 29, 3) := by decide +kernel
theorem dJ4_append_15ec4_5 : decode cJ4_append_15ec4 5 = .ok (.pop, 1) := by decide +kernel
theorem dJ4_append_15ec4_6 : decode cJ4_append_15ec4 6 = .ok (.aload_n 0, 1) := by decide +kernel
theorem dJ4_append_15ec4_7 : decode cJ4_append_15ec4 7 = .ok (.areturn, 1) := by decide +kernel
theorem dJ4_append_cf468_0 : decode cJ4_append_cf468 0 = .ok (.aload_n 0, 1) := by decide +kernel
theorem dJ4_append_cf468_1 : decode cJ4_append_cf468 1 = .ok (.iload_n 1, 1) := by decide +kernel
theorem dJ4_append_cf468_2 : decode cJ4_append_cf468 2 = .ok (.invokespecial 50, 3) := by decide +kernel
theorem dJ4_append_cf468_5 : decode cJ4_append_cf468 5 = .ok (.pop, 1) := by decide +kernel
theorem dJ4_append_cf468_6 : decode cJ4_append_cf468 6 = .ok (.aload_n 0, 1) := by decide +kernel
theorem dJ4_append_cf468_7 : decode cJ4_append_cf468 7 = .ok (.areturn, 1) := by decide +kernel
theorem dJ4_append_bf812_0 : decode cJ4_append_bf812 0 = .ok (.aload_n 0, 1) := by decide +kernel
theorem dJ4_append_bf812_1 : decode cJ4_append_bf812 1 = .ok (.iload_n 1, 1) := by decide +kernel
theorem dJ4_append_bf812_2 : decode cJ4_append_bf812 2 = .ok (.invokespecial 53, 3) := by decide +kernel
theorem dJ4_append_bf812_5 : decode cJ4_append_bf812 5 = .ok (.pop, 1) := by decide +kernel
theorem dJ4_append_bf812_6 : decode cJ4_append_bf812 6 = .ok (.aload_n 0, 1) := by decide +kernel
theorem dJ4_append_bf812_7 : decode cJ4_append_bf812 7 = .ok (.areturn, 1) := by decide +kernel
theorem dJ4_toString_0e30d_0 : decode cJ4_toString_0e30d 0 = .ok (.new 18, 3) := by decide +kernel
theorem dJ4_toString_0e30d_3 : decode cJ4_toString_0e30d 3 = .ok (.dup, 1) := by decide +kernel
theorem dJ4_toString_0e30d_4 : decode cJ4_toString_0e30d 4 = .ok (.aload_n 0, 1) := by decide +kernel
theorem dJ4_toString_0e30d_5 : decode cJ4_toString_0e30d 5 = .ok (.invokespecial 137, 3) := by decide +kernel
theorem dJ4_toString_0e30d_8 : decode cJ4_toString_0e30d 8 = .ok (.areturn, 1) := by decide +kernel
theorem dJ4_length_8abf5_0 : decode cJ4_length_8abf5 0 = .ok (.aload_n 0, 1) := by decide +kernel
theorem dJ4_length_8abf5_1 : decode cJ4_length_8abf5 1 = .ok (.invokespecial 343, 3) := by decide +kernel
theorem dJ4_length_8abf5_4 : decode cJ4_length_8abf5 4 = .ok (.ireturn, 1) := by decide +kernel
theorem dJ1_charAt_3b067_0 : decode cJ1_charAt_3b067 0 = .ok (.iload_n 1, 1) := by decide +kernel
theorem dJ1_charAt_3b067_1 : decode cJ1_charAt_3b067 1 = .ok (.aload_n 0, 1) := by decide +kernel
theorem dJ1_charAt_3b067_2 : decode cJ1_charAt_3b067 2 = .ok (.arraylength, 1) := by decide +kernel
theorem dJ1_charAt_3b067_3 : decode cJ1_charAt_3b067 3 = .ok (.invokestatic 9, 3) := by decide +kernel
theorem dJ1_charAt_3b067_6 : decode cJ1_charAt_3b067 6 = .ok (.aload_n 0, 1) := by decide +kernel
theorem dJ1_charAt_3b067_7 : decode cJ1_charAt_3b067 7 = .ok (.iload_n 1, 1) := by decide +kernel
theorem dJ1_charAt_3b067_8 : decode cJ1_charAt_3b067 8 = .ok (.baload, 1) := by decide +kernel
theorem dJ1_charAt_3b067_9 : decode cJ1_charAt_3b067 9 = .ok (.sipush 255, 3) := by decide +kernel
theorem dJ1_charAt_3b067_12 : decode cJ1_charAt_3b067 12 = .ok (.iand, 1) := by decide +kernel
theorem dJ1_charAt_3b067_13 : decode cJ1_charAt_3b067 13 = .ok (.i2c, 1) := by decide +kernel
theorem dJ1_charAt_3b067_14 : decode cJ1_charAt_3b067 14 = .ok (.ireturn, 1) := by decide +kernel
theorem dJ1_canEncode_fc78d_0 : decode cJ1_canEncode_fc78d 0 = .ok (.iload_n 0, 1) := by decide +kernel
theorem dJ1_canEncode_fc78d_1 : decode cJ1_canEncode_fc78d 1 = .ok (.sipush 255, 3) := by decide +kernel
theorem dJ1_canEncode_fc78d_4 : decode cJ1_canEncode_fc78d 4 = .ok (.if_icmp .gt 7, 3) := by decide +kernel
theorem dJ1_canEncode_fc78d_7 : decode cJ1_canEncode_fc78d 7 = .ok (.iconst 1, 1) := by decide +kernel
theorem dJ1_canEncode_fc78d_8 : decode cJ1_canEncode_fc78d 8 = .ok (.goto 4, 3) := by decide +kernel
theorem dJ1_canEncode_fc78d_11 : decode cJ1_canEncode_fc78d 11 = .ok (.iconst 0, 1) := by decide +kernel
theorem dJ1_canEncode_fc78d_12 : decode cJ1_canEncode_fc78d 12 = .ok (.ireturn, 1) := by decide +kernel
theorem dJ1_inflate_0e8fd_0 : decode cJ1_inflate_0e8fd 0 = .ok (.aload_n 0, 1) := by decide +kernel
theorem dJ1_inflate_0e8fd_1 : decode cJ1_inflate_0e8fd 1 = .ok (.iload_n 1, 1) := by decide +kernel
theorem dJ1_inflate_0e8fd_2 : decode cJ1_inflate_0e8fd 2 = .ok (.aload_n 2, 1) := by decide +kernel
theorem dJ1_inflate_0e8fd_3 : decode cJ1_inflate_0e8fd 3 = .ok (.iload_n 3, 1) := by decide +kernel
theorem dJ1_inflate_0e8fd_4 : decode cJ1_inflate_0e8fd 4 = .ok (.iload 4, 2) := by decide +kernel
theorem dJ1_inflate_0e8fd_6 : decode cJ1_inflate_0e8fd 6 = .ok (.invokestatic 240, 3) := by decide +kernel
theorem dJ1_inflate_0e8fd_9 : decode cJ1_inflate_0e8fd 9 = .ok (.return_, 1) := by decide +kernel
theorem dJ2_newBytesFor_77867_0 : decode cJ2_newBytesFor_77867 0 = .ok (.iload_n 0, 1) := by decide +kernel
theorem dJ2_newBytesFor_77867_1 : decode cJ2_newBytesFor_77867 1 = .ok (.invokestatic 11, 3) := by decide +kernel
theorem dJ2_newBytesFor_77867_4 : decode cJ2_newBytesFor_77867 4 = .ok (.newarray .byte, 2) := by decide +kernel
theorem dJ2_newBytesFor_77867_6 : decode cJ2_newBytesFor_77867 6 = .ok (.areturn, 1) := by decide +kernel
theorem dJ2_newBytesLength_0f7a4_0 : decode cJ2_newBytesLength_0f7a4 0 = .ok (.iload_n 0, 1) := by decide +kernel
theorem dJ2_newBytesLength_0f7a4_1 : decode cJ2_newBytesLength_0f7a4 1 = .ok (.ifCond .ge 11, 3) := by decide +kernel
theorem dJ2_newBytesLength_0f7a4_4 : decode cJ2_newBytesLength_0f7a4 4 = .ok (.new 17, 3) := by decide +kernel
theorem dJ2_newBytesLength_0f7a4_7 : decode cJ2_newBytesLength_0f7a4 7 = .ok (.dup, 1) := by decide +kernel
theorem dJ2_newBytesLength_0f7a4_8 : decode cJ2_newBytesLength_0f7a4 8 = .ok (.invokespecial 19, 3) := by decide +kernel
theorem dJ2_newBytesLength_0f7a4_11 : decode cJ2_newBytesLength_0f7a4 11 = .ok (.athrow, 1) := by decide +kernel
theorem dJ2_newBytesLength_0f7a4_12 : decode cJ2_newBytesLength_0f7a4 12 = .ok (.iload_n 0, 1) := by decide +kernel
theorem dJ2_newBytesLength_0f7a4_13 : decode cJ2_newBytesLength_0f7a4 13 = .ok (.ldc 20, 2) := by decide +kernel
theorem dJ2_newBytesLength_0f7a4_15 : decode cJ2_newBytesLength_0f7a4 15 = .ok (.if_icmp .lt 40, 3) := by decide +kernel
theorem dJ2_newBytesLength_0f7a4_18 : decode cJ2_newBytesLength_0f7a4 18 = .ok (.new 21, 3) := by decide +kernel
theorem dJ2_newBytesLength_0f7a4_21 : decode cJ2_newBytesLength_0f7a4 21 = .ok (.dup, 1) := by decide +kernel
theorem dJ2_newBytesLength_0f7a4_22 : decode cJ2_newBytesLength_0f7a4 22 = .ok (.new 23, 3) := by decide +kernel
theorem dJ2_newBytesLength_0f7a4_25 : decode cJ2_newBytesLength_0f7a4 25 = .ok (.dup, 1) := by decide +kernel
theorem dJ2_newBytesLength_0f7a4_26 : decode cJ2_newBytesLength_0f7a4 26 = .ok (.invokespecial 25, 3) := by decide +kernel
theorem dJ2_newBytesLength_0f7a4_29 : decode cJ2_newBytesLength_0f7a4 29 = .ok (.ldc 26, 2) := by decide +kernel
theorem dJ2_newBytesLength_0f7a4_31 : decode cJ2_newBytesLength_0f7a4 31 = .ok (.invokevirtual 28, 3) := by decide +kernel
theorem dJ2_newBytesLength_0f7a4_34 : decode cJ2_newBytesLength_0f7a4 34 = .ok (.iload_n 0, 1) := by decide +kernel
theorem dJ2_newBytesLength_0f7a4_35 : decode cJ2_newBytesLength_0f7a4 35 = .ok (.invokevirtual 32, 3) := by decide +kernel
theorem dJ2_newBytesLength_0f7a4_38 : decode cJ2_newBytesLength_0f7a4 38 = .ok (.ldc 35, 2) := by decide +kernel
theorem dJ2_newBytesLength_0f7a4_40 : decode cJ2_newBytesLength_0f7a4 40 = .ok (.invokevirtual 28, 3) := by decide +kernel
theorem dJ2_newBytesLength_0f7a4_43 : decode cJ2_newBytesLength_0f7a4 43 = .ok (.ldc 20, 2) := by decide +kernel
theorem dJ2_newBytesLength_0f7a4_45 : decode cJ2_newBytesLength_0f7a4 45 = .ok (.invokevirtual 32, 3) := by decide +kernel
theorem dJ2_newBytesLength_0f7a4_48 : decode cJ2_newBytesLength_0f7a4 48 = .ok (.invokevirtual 37, 3) := by decide +kernel
theorem dJ2_newBytesLength_0f7a4_51 : decode cJ2_newBytesLength_0f7a4 51 = .ok (.invokespecial 41, 3) := by decide +kernel
theorem dJ2_newBytesLength_0f7a4_54 : decode cJ2_newBytesLength_0f7a4 54 = .ok (.athrow, 1) := by decide +kernel
theorem dJ2_newBytesLength_0f7a4_55 : decode cJ2_newBytesLength_0f7a4 55 = .ok (.iload_n 0, 1) := by decide +kernel
theorem dJ2_newBytesLength_0f7a4_56 : decode cJ2_newBytesLength_0f7a4 56 = .ok (.iconst 1, 1) := by decide +kernel
theorem dJ2_newBytesLength_0f7a4_57 : decode cJ2_newBytesLength_0f7a4 57 = .ok (.ishl, 1) := by decide +kernel
theorem dJ2_newBytesLength_0f7a4_58 : decode cJ2_newBytesLength_0f7a4 58 = .ok (.ireturn, 1) := by decide +kernel
theorem dJ2_putChar_b72d1_0 : decode cJ2_putChar_b72d1 0 = .ok (.getstatic 44, 3) := by decide +kernel
theorem dJ2_putChar_b72d1_3 : decode cJ2_putChar_b72d1 3 = .ok (.ifCond .ne 25, 3) := by decide +kernel
theorem dJ2_putChar_b72d1_6 : decode cJ2_putChar_b72d1 6 = .ok (.iload_n 1, 1) := by decide +kernel
theorem dJ2_putChar_b72d1_7 : decode cJ2_putChar_b72d1 7 = .ok (.ifCond .lt 11, 3) := by decide +kernel
theorem dJ2_putChar_b72d1_10 : decode cJ2_putChar_b72d1 10 = .ok (.iload_n 1, 1) := by decide +kernel
theorem dJ2_putChar_b72d1_11 : decode cJ2_putChar_b72d1 11 = .ok (.aload_n 0, 1) := by decide +kernel
theorem dJ2_putChar_b72d1_12 : decode cJ2_putChar_b72d1 12 = .ok (.invokestatic 48, 3) := by decide +kernel
theorem dJ2_putChar_b72d1_15 : decode cJ2_putChar_b72d1 15 = .ok (.if_icmp .lt 13, 3) := by decide +kernel
theorem dJ2_putChar_b72d1_18 : decode cJ2_putChar_b72d1 18 = .ok (.new 52, 3) := by decide +kernel
theorem dJ2_putChar_b72d1_21 : decode cJ2_putChar_b72d1 21 = .ok (.dup, 1) := by decide +kernel
theorem dJ2_putChar_b72d1_22 : decode cJ2_putChar_b72d1 22 = .ok (.ldc 54, 2) := by decide +kernel
theorem dJ2_putChar_b72d1_24 : decode cJ2_putChar_b72d1 24 = .ok (.invokespecial 56, 3) := by decide +kernel
theorem dJ2_putChar_b72d1_27 : decode cJ2_putChar_b72d1 27 = .ok (.athrow, 1) := by decide +kernel
theorem dJ2_putChar_b72d1_28 : decode cJ2_putChar_b72d1 28 = .ok (.iload_n 1, 1) := by decide +kernel
theorem dJ2_putChar_b72d1_29 : decode cJ2_putChar_b72d1 29 = .ok (.iconst 1, 1) := by decide +kernel
theorem dJ2_putChar_b72d1_30 : decode cJ2_putChar_b72d1 30 = .ok (.ishl, 1) := by decide +kernel
theorem dJ2_putChar_b72d1_31 : decode cJ2_putChar_b72d1 31 = .ok (.istore_n 1, 1) := by decide +kernel
theorem dJ2_putChar_b72d1_32 : decode cJ2_putChar_b72d1 32 = .ok (.aload_n 0, 1) := by decide +kernel
theorem dJ2_putChar_b72d1_33 : decode cJ2_putChar_b72d1 33 = .ok (.iload_n 1, 1) := by decide +kernel
theorem dJ2_putChar_b72d1_34 : decode cJ2_putChar_b72d1 34 = .ok (.iinc 1 1, 3) := by decide +kernel
theorem dJ2_putChar_b72d1_37 : decode cJ2_putChar_b72d1 37 = .ok (.iload_n 2, 1) := by decide +kernel
theorem dJ2_putChar_b72d1_38 : decode cJ2_putChar_b72d1 38 = .ok (.getstatic 59, 3) := by decide +kernel
theorem dJ2_putChar_b72d1_41 : decode cJ2_putChar_b72d1 41 = .ok (.ishr, 1) := by decide +kernel
theorem dJ2_putChar_b72d1_42 : decode cJ2_putChar_b72d1 42 = .ok (.i2b, 1) := by decide +kernel
theorem dJ2_putChar_b72d1_43 : decode cJ2_putChar_b72d1 43 = .ok (.bastore, 1) := by decide +kernel
theorem dJ2_putChar_b72d1_44 : decode cJ2_putChar_b72d1 44 = .ok (.aload_n 0, 1) := by decide +kernel
theorem dJ2_putChar_b72d1_45 : decode cJ2_putChar_b72d1 45 = .ok (.iload_n 1, 1) := by decide +kernel
theorem dJ2_putChar_b72d1_46 : decode cJ2_putChar_b72d1 46 = .ok (.iload_n 2, 1) := by decide +kernel
theorem dJ2_putChar_b72d1_47 : decode cJ2_putChar_b72d1 47 = .ok (.getstatic 63, 3) := by decide +kernel
theorem dJ2_putChar_b72d1_50 : decode cJ2_putChar_b72d1 50 = .ok (.ishr, 1) := by decide +kernel
theorem dJ2_putChar_b72d1_51 : decode cJ2_putChar_b72d1 51 = .ok (.i2b, 1) := by decide +kernel
theorem dJ2_putChar_b72d1_52 : decode cJ2_putChar_b72d1 52 = .ok (.bastore, 1) := by decide +kernel
theorem dJ2_putChar_b72d1_53 : decode cJ2_putChar_b72d1 53 = .ok (.return_, 1) := by decide +kernel
theorem dJ2_getChar_3b067_0 : decode cJ2_getChar_3b067 0 = .ok (.getstatic 44, 3) := by decide +kernel
theorem dJ2_getChar_3b067_3 : decode cJ2_getChar_3b067 3 = .ok (.ifCond .ne 25, 3) := by decide +kernel
theorem dJ2_getChar_3b067_6 : decode cJ2_getChar_3b067 6 = .ok (.iload_n 1, 1) := by decide +kernel
theorem dJ2_getChar_3b067_7 : decode cJ2_getChar_3b067 7 = .ok (.ifCond .lt 11, 3) := by decide +kernel
theorem dJ2_getChar_3b067_10 : decode cJ2_getChar_3b067 10 = .ok (.iload_n 1, 1) := by decide +kernel
theorem dJ2_getChar_3b067_11 : decode cJ2_getChar_3b067 11 = .ok (.aload_n 0, 1) := by decide +kernel
theorem dJ2_getChar_3b067_12 : decode cJ2_getChar_3b067 12 = .ok (.invokestatic 48, 3) := by decide +kernel
theorem dJ2_getChar_3b067_15 : decode cJ2_getChar_3b067 15 = .ok (.if_icmp .lt 13, 3) := by decide +kernel
theorem dJ2_getChar_3b067_18 : decode cJ2_getChar_3b067 18 = .ok (.new 52, 3) := by decide +kernel
theorem dJ2_getChar_3b067_21 : decode cJ2_getChar_3b067 21 = .ok (.dup, 1) := by decide +kernel
theorem dJ2_getChar_3b067_22 : decode cJ2_getChar_3b067 22 = .ok (.ldc 54, 2) := by decide +kernel
theorem dJ2_getChar_3b067_24 : decode cJ2_getChar_3b067 24 = .ok (.invokespecial 56, 3) := by decide +kernel
theorem dJ2_getChar_3b067_27 : decode cJ2_getChar_3b067 27 = .ok (.athrow, 1) := by decide +kernel
theorem dJ2_getChar_3b067_28 : decode cJ2_getChar_3b067 28 = .ok (.iload_n 1, 1) := by decide +kernel
theorem dJ2_getChar_3b067_29 : decode cJ2_getChar_3b067 29 = .ok (.iconst 1, 1) := by decide +kernel
theorem dJ2_getChar_3b067_30 : decode cJ2_getChar_3b067 30 = .ok (.ishl, 1) := by decide +kernel
theorem dJ2_getChar_3b067_31 : decode cJ2_getChar_3b067 31 = .ok (.istore_n 1, 1) := by decide +kernel
theorem dJ2_getChar_3b067_32 : decode cJ2_getChar_3b067 32 = .ok (.aload_n 0, 1) := by decide +kernel
theorem dJ2_getChar_3b067_33 : decode cJ2_getChar_3b067 33 = .ok (.iload_n 1, 1) := by decide +kernel
theorem dJ2_getChar_3b067_34 : decode cJ2_getChar_3b067 34 = .ok (.iinc 1 1, 3) := by decide +kernel
theorem dJ2_getChar_3b067_37 : decode cJ2_getChar_3b067 37 = .ok (.baload, 1) := by decide +kernel
theorem dJ2_getChar_3b067_38 : decode cJ2_getChar_3b067 38 = .ok (.sipush 255, 3) := by decide +kernel
theorem dJ2_getChar_3b067_41 : decode cJ2_getChar_3b067 41 = .ok (.iand, 1) := by decide +kernel
theorem dJ2_getChar_3b067_42 : decode cJ2_getChar_3b067 42 = .ok (.getstatic 59, 3) := by decide +kernel
theorem dJ2_getChar_3b067_45 : decode cJ2_getChar_3b067 45 = .ok (.ishl, 1) := by decide +kernel
theorem dJ2_getChar_3b067_46 : decode cJ2_getChar_3b067 46 = .ok (.aload_n 0, 1) := by decide +kernel
theorem dJ2_getChar_3b067_47 : decode cJ2_getChar_3b067 47 = .ok (.iload_n 1, 1) := by decide +kernel
theorem dJ2_getChar_3b067_48 : decode cJ2_getChar_3b067 48 = .ok (.baload, 1) := by decide +kernel
theorem dJ2_getChar_3b067_49 : decode cJ2_getChar_3b067 49 = .ok (.sipush 255, 3) := by decide +kernel
theorem dJ2_getChar_3b067_52 : decode cJ2_getChar_3b067 52 = .ok (.iand, 1) := by decide +kernel
theorem dJ2_getChar_3b067_53 : decode cJ2_getChar_3b067 53 = .ok (.getstatic 63, 3) := by decide +kernel
theorem dJ2_getChar_3b067_56 : decode cJ2_getChar_3b067 56 = .ok (.ishl, 1) := by decide +kernel
theorem dJ2_getChar_3b067_57 : decode cJ2_getChar_3b067 57 = .ok (.ior, 1) := by decide +kernel
theorem dJ2_getChar_3b067_58 : decode cJ2_getChar_3b067 58 = .ok (.i2c, 1) := by decide +kernel
theorem dJ2_getChar_3b067_59 : decode cJ2_getChar_3b067 59 = .ok (.ireturn, 1) := by decide +kernel
theorem dJ2_length_9d52b_0 : decode cJ2_length_9d52b 0 = .ok (.aload_n 0, 1) := by decide +kernel
theorem dJ2_length_9d52b_1 : decode cJ2_length_9d52b 1 = .ok (.arraylength, 1) := by decide +kernel
theorem dJ2_length_9d52b_2 : decode cJ2_length_9d52b 2 = .ok (.iconst 1, 1) := by decide +kernel
theorem dJ2_length_9d52b_3 : decode cJ2_length_9d52b 3 = .ok (.ishr, 1) := by decide +kernel
theorem dJ2_length_9d52b_4 : decode cJ2_length_9d52b 4 = .ok (.ireturn, 1) := by decide +kernel
theorem dJ2_coderFromArrayLen_85cad_0 : decode cJ2_coderFromArrayLen_85cad 0 = .ok (.iload_n 1, 1) := by decide +kernel
theorem dJ2_coderFromArrayLen_85cad_1 : decode cJ2_coderFromArrayLen_85cad 1 = .ok (.aload_n 0, 1) := by decide +kernel
theorem dJ2_coderFromArrayLen_85cad_2 : decode cJ2_coderFromArrayLen_85cad 2 = .ok (.arraylength, 1) := by decide +kernel
theorem dJ2_coderFromArrayLen_85cad_3 : decode cJ2_coderFromArrayLen_85cad 3 = .ok (.isub, 1) := by decide +kernel
theorem dJ2_coderFromArrayLen_85cad_4 : decode cJ2_coderFromArrayLen_85cad 4 = .ok (.bipush 31, 2) := by decide +kernel
theorem dJ2_coderFromArrayLen_85cad_6 : decode cJ2_coderFromArrayLen_85cad 6 = .ok (.iushr, 1) := by decide +kernel
theorem dJ2_coderFromArrayLen_85cad_7 : decode cJ2_coderFromArrayLen_85cad 7 = .ok (.i2b, 1) := by decide +kernel
theorem dJ2_coderFromArrayLen_85cad_8 : decode cJ2_coderFromArrayLen_85cad 8 = .ok (.ireturn, 1) := by decide +kernel
theorem dJ2_compress_39247_0 : decode cJ2_compress_39247 0 = .ok (.iload_n 2, 1) := by decide +kernel
theorem dJ2_compress_39247_1 : decode cJ2_compress_39247 1 = .ok (.newarray .byte, 2) := by decide +kernel
theorem dJ2_compress_39247_3 : decode cJ2_compress_39247 3 = .ok (.astore_n 3, 1) := by decide +kernel
theorem dJ2_compress_39247_4 : decode cJ2_compress_39247 4 = .ok (.aload_n 0, 1) := by decide +kernel
theorem dJ2_compress_39247_5 : decode cJ2_compress_39247 5 = .ok (.iload_n 1, 1) := by decide +kernel
theorem dJ2_compress_39247_6 : decode cJ2_compress_39247 6 = .ok (.aload_n 3, 1) := by decide +kernel
theorem dJ2_compress_39247_7 : decode cJ2_compress_39247 7 = .ok (.iconst 0, 1) := by decide +kernel
theorem dJ2_compress_39247_8 : decode cJ2_compress_39247 8 = .ok (.iload_n 2, 1) := by decide +kernel
theorem dJ2_compress_39247_9 : decode cJ2_compress_39247 9 = .ok (.invokestatic 123, 3) := by decide +kernel
theorem dJ2_compress_39247_12 : decode cJ2_compress_39247 12 = .ok (.istore 4, 2) := by decide +kernel
theorem dJ2_compress_39247_14 : decode cJ2_compress_39247 14 = .ok (.iload 4, 2) := by decide +kernel
theorem dJ2_compress_39247_16 : decode cJ2_compress_39247 16 = .ok (.iload_n 2, 1) := by decide +kernel
theorem dJ2_compress_39247_17 : decode cJ2_compress_39247 17 = .ok (.if_icmp .eq 47, 3) := by decide +kernel
theorem dJ2_compress_39247_20 : decode cJ2_compress_39247 20 = .ok (.aload_n 0, 1) := by decide +kernel
theorem dJ2_compress_39247_21 : decode cJ2_compress_39247 21 = .ok (.iload_n 1, 1) := by decide +kernel
theorem dJ2_compress_39247_22 : decode cJ2_compress_39247 22 = .ok (.iconst 1, 1) := by decide +kernel
theorem dJ2_compress_39247_23 : decode cJ2_compress_39247 23 = .ok (.ishl, 1) := by decide +kernel
theorem dJ2_compress_39247_24 : decode cJ2_compress_39247 24 = .ok (.iload_n 1, 1) := by decide +kernel
theorem dJ2_compress_39247_25 : decode cJ2_compress_39247 25 = .ok (.iload_n 2, 1) := by decide +kernel
theorem dJ2_compress_39247_26 : decode cJ2_compress_39247 26 = .ok (.iadd, 1) := by decide +kernel
theorem dJ2_compress_39247_27 : decode cJ2_compress_39247 27 = .ok (.invokestatic 11, 3) := by decide +kernel
theorem dJ2_compress_39247_30 : decode cJ2_compress_39247 30 = .ok (.invokestatic 126, 3) := by decide +kernel
theorem dJ2_compress_39247_33 : decode cJ2_compress_39247 33 = .ok (.astore 5, 2) := by decide +kernel
theorem dJ2_compress_39247_35 : decode cJ2_compress_39247 35 = .ok (.aload 5, 2) := by decide +kernel
theorem dJ2_compress_39247_37 : decode cJ2_compress_39247 37 = .ok (.iload 4, 2) := by decide +kernel
theorem dJ2_compress_39247_39 : decode cJ2_compress_39247 39 = .ok (.invokestatic 71, 3) := by decide +kernel
theorem dJ2_compress_39247_42 : decode cJ2_compress_39247 42 = .ok (.sipush 255, 3) := by decide +kernel
theorem dJ2_compress_39247_45 : decode cJ2_compress_39247 45 = .ok (.if_icmp .gt 16, 3) := by decide +kernel
theorem dJ2_compress_39247_48 : decode cJ2_compress_39247 48 = .ok (.aload 5, 2) := by decide +kernel
theorem dJ2_compress_39247_50 : decode cJ2_compress_39247 50 = .ok (.iconst 0, 1) := by decide +kernel
theorem dJ2_compress_39247_51 : decode cJ2_compress_39247 51 = .ok (.aload_n 3, 1) := by decide +kernel
theorem dJ2_compress_39247_52 : decode cJ2_compress_39247 52 = .ok (.iconst 0, 1) := by decide +kernel
theorem dJ2_compress_39247_53 : decode cJ2_compress_39247 53 = .ok (.iload_n 2, 1) := by decide +kernel
theorem dJ2_compress_39247_54 : decode cJ2_compress_39247 54 = .ok (.invokestatic 123, 3) := by decide +kernel
theorem dJ2_compress_39247_57 : decode cJ2_compress_39247 57 = .ok (.iload_n 2, 1) := by decide +kernel
theorem dJ2_compress_39247_58 : decode cJ2_compress_39247 58 = .ok (.if_icmp .eq 6, 3) := by decide +kernel
theorem dJ2_compress_39247_61 : decode cJ2_compress_39247 61 = .ok (.aload 5, 2) := by decide +kernel
theorem dJ2_compress_39247_63 : decode cJ2_compress_39247 63 = .ok (.areturn, 1) := by decide +kernel
theorem dJ2_compress_39247_64 : decode cJ2_compress_39247 64 = .ok (.aload_n 3, 1) := by decide +kernel
theorem dJ2_compress_39247_65 : decode cJ2_compress_39247 65 = .ok (.areturn, 1) := by decide +kernel
theorem dJ2_compress_5af95_0 : decode cJ2_compress_5af95 0 = .ok (.iload_n 1, 1) := by decide +kernel
theorem dJ2_compress_5af95_1 : decode cJ2_compress_5af95 1 = .ok (.iload 4, 2) := by decide +kernel
theorem dJ2_compress_5af95_3 : decode cJ2_compress_5af95 3 = .ok (.aload_n 0, 1) := by decide +kernel
theorem dJ2_compress_5af95_4 : decode cJ2_compress_5af95 4 = .ok (.invokestatic 173, 3) := by decide +kernel
theorem dJ2_compress_5af95_7 : decode cJ2_compress_5af95 7 = .ok (.iconst 0, 1) := by decide +kernel
theorem dJ2_compress_5af95_8 : decode cJ2_compress_5af95 8 = .ok (.istore 5, 2) := by decide +kernel
theorem dJ2_compress_5af95_10 : decode cJ2_compress_5af95 10 = .ok (.iload 5, 2) := by decide +kernel
theorem dJ2_compress_5af95_12 : decode cJ2_compress_5af95 12 = .ok (.iload 4, 2) := by decide +kernel
theorem dJ2_compress_5af95_14 : decode cJ2_compress_5af95 14 = .ok (.if_icmp .ge 39, 3) := by decide +kernel
theorem dJ2_compress_5af95_17 : decode cJ2_compress_5af95 17 = .ok (.aload_n 0, 1) := by decide +kernel
theorem dJ2_compress_5af95_18 : decode cJ2_compress_5af95 18 = .ok (.iload_n 1, 1) := by decide +kernel
theorem dJ2_compress_5af95_19 : decode cJ2_compress_5af95 19 = .ok (.invokestatic 71, 3) := by decide +kernel
theorem dJ2_compress_5af95_22 : decode cJ2_compress_5af95 22 = .ok (.istore 6, 2) := by decide +kernel
theorem dJ2_compress_5af95_24 : decode cJ2_compress_5af95 24 = .ok (.iload 6, 2) := by decide +kernel
theorem dJ2_compress_5af95_26 : decode cJ2_compress_5af95 26 = .ok (.sipush 255, 3) := by decide +kernel
theorem dJ2_compress_5af95_29 : decode cJ2_compress_5af95 29 = .ok (.if_icmp .le 6, 3) := by decide +kernel
theorem dJ2_compress_5af95_32 : decode cJ2_compress_5af95 32 = .ok (.iload 5, 2) := by decide +kernel
theorem dJ2_compress_5af95_34 : decode cJ2_compress_5af95 34 = .ok (.ireturn, 1) := by decide +kernel
theorem dJ2_compress_5af95_35 : decode cJ2_compress_5af95 35 = .ok (.aload_n 2, 1) := by decide +kernel
theorem dJ2_compress_5af95_36 : decode cJ2_compress_5af95 36 = .ok (.iload_n 3, 1) := by decide +kernel
theorem dJ2_compress_5af95_37 : decode cJ2_compress_5af95 37 = .ok (.iload 6, 2) := by decide +kernel
theorem dJ2_compress_5af95_39 : decode cJ2_compress_5af95 39 = .ok (.i2b, 1) := by decide +kernel
theorem dJ2_compress_5af95_40 : decode cJ2_compress_5af95 40 = .ok (.bastore, 1) := by decide +kernel
theorem dJ2_compress_5af95_41 : decode cJ2_compress_5af95 41 = .ok (.iinc 1 1, 3) := by decide +kernel
theorem dJ2_compress_5af95_44 : decode cJ2_compress_5af95 44 = .ok (.iinc 3 1, 3) := by decide +kernel
theorem dJ2_compress_5af95_47 : decode cJ2_compress_5af95 47 = .ok (.iinc 5 1, 3) := by decide +kernel
theorem dJ2_compress_5af95_50 : decode cJ2_compress_5af95 50 = .ok (.goto (-40), 3) := by decide +kernel
theorem dJ2_compress_5af95_53 : decode cJ2_compress_5af95 53 = .ok (.iload 4, 2) := by decide +kernel
theorem dJ2_compress_5af95_55 : decode cJ2_compress_5af95 55 = .ok (.ireturn, 1) := by decide +kernel
theorem dJ2_putCharSB_b72d1_0 : decode cJ2_putCharSB_b72d1 0 = .ok (.iload_n 1, 1) := by decide +kernel
theorem dJ2_putCharSB_b72d1_1 : decode cJ2_putCharSB_b72d1 1 = .ok (.aload_n 0, 1) := by decide +kernel
theorem dJ2_putCharSB_b72d1_2 : decode cJ2_putCharSB_b72d1 2 = .ok (.invokestatic 67, 3) := by decide +kernel
theorem dJ2_putCharSB_b72d1_5 : decode cJ2_putCharSB_b72d1 5 = .ok (.aload_n 0, 1) := by decide +kernel
theorem dJ2_putCharSB_b72d1_6 : decode cJ2_putCharSB_b72d1 6 = .ok (.iload_n 1, 1) := by decide +kernel
theorem dJ2_putCharSB_b72d1_7 : decode cJ2_putCharSB_b72d1 7 = .ok (.iload_n 2, 1) := by decide +kernel
theorem dJ2_putCharSB_b72d1_8 : decode cJ2_putCharSB_b72d1 8 = .ok (.invokestatic 111, 3) := by decide +kernel
theorem dJ2_putCharSB_b72d1_11 : decode cJ2_putCharSB_b72d1 11 = .ok (.return_, 1) := by decide +kernel
theorem dJ2_getChars_46870_0 : decode cJ2_getChars_46870 0 = .ok (.iload_n 1, 1) := by decide +kernel
theorem dJ2_getChars_46870_1 : decode cJ2_getChars_46870 1 = .ok (.iload_n 2, 1) := by decide +kernel
theorem dJ2_getChars_46870_2 : decode cJ2_getChars_46870 2 = .ok (.aload_n 3, 1) := by decide +kernel
theorem dJ2_getChars_46870_3 : decode cJ2_getChars_46870 3 = .ok (.invokestatic 96, 3) := by decide +kernel
theorem dJ2_getChars_46870_6 : decode cJ2_getChars_46870 6 = .ok (.iload_n 0, 1) := by decide +kernel
theorem dJ2_getChars_46870_7 : decode cJ2_getChars_46870 7 = .ok (.iload_n 2, 1) := by decide +kernel
theorem dJ2_getChars_46870_8 : decode cJ2_getChars_46870 8 = .ok (.aload_n 3, 1) := by decide +kernel
theorem dJ2_getChars_46870_9 : decode cJ2_getChars_46870 9 = .ok (.invokestatic 393, 3) := by decide +kernel
theorem dJ2_getChars_46870_12 : decode cJ2_getChars_46870 12 = .ok (.istore 4, 2) := by decide +kernel
theorem dJ2_getChars_46870_14 : decode cJ2_getChars_46870 14 = .ok (.getstatic 44, 3) := by decide +kernel
theorem dJ2_getChars_46870_17 : decode cJ2_getChars_46870 17 = .ok (.ifCond .ne 17, 3) := by decide +kernel
theorem dJ2_getChars_46870_20 : decode cJ2_getChars_46870 20 = .ok (.iload_n 1, 1) := by decide +kernel
theorem dJ2_getChars_46870_21 : decode cJ2_getChars_46870 21 = .ok (.iload 4, 2) := by decide +kernel
theorem dJ2_getChars_46870_23 : decode cJ2_getChars_46870 23 = .ok (.if_icmp .eq 11, 3) := by decide +kernel
theorem dJ2_getChars_46870_26 : decode cJ2_getChars_46870 26 = .ok (.new 52, 3) := by decide +kernel
theorem dJ2_getChars_46870_29 : decode cJ2_getChars_46870 29 = .ok (.dup, 1) := by decide +kernel
theorem dJ2_getChars_46870_30 : decode cJ2_getChars_46870 30 = .ok (.invokespecial 66, 3) := by decide +kernel
theorem dJ2_getChars_46870_33 : decode cJ2_getChars_46870 33 = .ok (.athrow, 1) := by decide +kernel
theorem dJ2_getChars_46870_34 : decode cJ2_getChars_46870 34 = .ok (.iload 4, 2) := by decide +kernel
theorem dJ2_getChars_46870_36 : decode cJ2_getChars_46870 36 = .ok (.ireturn, 1) := by decide +kernel
theorem dJ2_putCharsAt_cd4e5_0 : decode cJ2_putCharsAt_cd4e5 0 = .ok (.iload_n 1, 1) := by decide +kernel
theorem dJ2_putCharsAt_cd4e5_1 : decode cJ2_putCharsAt_cd4e5 1 = .ok (.iconst 4, 1) := by decide +kernel
theorem dJ2_putCharsAt_cd4e5_2 : decode cJ2_putCharsAt_cd4e5 2 = .ok (.iadd, 1) := by decide +kernel
theorem dJ2_putCharsAt_cd4e5_3 : decode cJ2_putCharsAt_cd4e5 3 = .ok (.istore 6, 2) := by decide +kernel
theorem dJ2_putCharsAt_cd4e5_5 : decode cJ2_putCharsAt_cd4e5 5 = .ok (.iload_n 1, 1) := by decide +kernel
theorem dJ2_putCharsAt_cd4e5_6 : decode cJ2_putCharsAt_cd4e5 6 = .ok (.iload 6, 2) := by decide +kernel
theorem dJ2_putCharsAt_cd4e5_8 : decode cJ2_putCharsAt_cd4e5 8 = .ok (.aload_n 0, 1) := by decide +kernel
theorem dJ2_putCharsAt_cd4e5_9 : decode cJ2_putCharsAt_cd4e5 9 = .ok (.invokestatic 96, 3) := by decide +kernel
theorem dJ2_putCharsAt_cd4e5_12 : decode cJ2_putCharsAt_cd4e5 12 = .ok (.aload_n 0, 1) := by decide +kernel
theorem dJ2_putCharsAt_cd4e5_13 : decode cJ2_putCharsAt_cd4e5 13 = .ok (.iload_n 1, 1) := by decide +kernel
theorem dJ2_putCharsAt_cd4e5_14 : decode cJ2_putCharsAt_cd4e5 14 = .ok (.iinc 1 1, 3) := by decide +kernel
theorem dJ2_putCharsAt_cd4e5_17 : decode cJ2_putCharsAt_cd4e5 17 = .ok (.iload_n 2, 1) := by decide +kernel
theorem dJ2_putCharsAt_cd4e5_18 : decode cJ2_putCharsAt_cd4e5 18 = .ok (.invokestatic 111, 3) := by decide +kernel
theorem dJ2_putCharsAt_cd4e5_21 : decode cJ2_putCharsAt_cd4e5 21 = .ok (.aload_n 0, 1) := by decide +kernel
theorem dJ2_putCharsAt_cd4e5_22 : decode cJ2_putCharsAt_cd4e5 22 = .ok (.iload_n 1, 1) := by decide +kernel
theorem dJ2_putCharsAt_cd4e5_23 : decode cJ2_putCharsAt_cd4e5 23 = .ok (.iinc 1 1, 3) := by decide +kernel
theorem dJ2_putCharsAt_cd4e5_26 : decode cJ2_putCharsAt_cd4e5 26 = .ok (.iload_n 3, 1) := by decide +kernel
theorem dJ2_putCharsAt_cd4e5_27 : decode cJ2_putCharsAt_cd4e5 27 = .ok (.invokestatic 111, 3) := by decide +kernel
theorem dJ2_putCharsAt_cd4e5_30 : decode cJ2_putCharsAt_cd4e5 30 = .ok (.aload_n 0, 1) := by decide +kernel
theorem dJ2_putCharsAt_cd4e5_31 : decode cJ2_putCharsAt_cd4e5 31 = .ok (.iload_n 1, 1) := by decide +kernel
theorem dJ2_putCharsAt_cd4e5_32 : decode cJ2_putCharsAt_cd4e5 32 = .ok (.iinc 1 1, 3) := by decide +kernel
theorem dJ2_putCharsAt_cd4e5_35 : decode cJ2_putCharsAt_cd4e5 35 = .ok (.iload 4, 2) := by decide +kernel
theorem dJ2_putCharsAt_cd4e5_37 : decode cJ2_putCharsAt_cd4e5 37 = .ok (.invokestatic 111, 3) := by decide +kernel
theorem dJ2_putCharsAt_cd4e5_40 : decode cJ2_putCharsAt_cd4e5 40 = .ok (.aload_n 0, 1) := by decide +kernel
theorem dJ2_putCharsAt_cd4e5_41 : decode cJ2_putCharsAt_cd4e5 41 = .ok (.iload_n 1, 1) := by decide +kernel
theorem dJ2_putCharsAt_cd4e5_42 : decode cJ2_putCharsAt_cd4e5 42 = .ok (.iinc 1 1, 3) := by decide +kernel
theorem dJ2_putCharsAt_cd4e5_45 : decode cJ2_putCharsAt_cd4e5 45 = .ok (.iload 5, 2) := by decide +kernel
theorem dJ2_putCharsAt_cd4e5_47 : decode cJ2_putCharsAt_cd4e5 47 = .ok (.invokestatic 111, 3) := by decide +kernel
theorem dJ2_putCharsAt_cd4e5_50 : decode cJ2_putCharsAt_cd4e5 50 = .ok (.getstatic 44, 3) := by decide +kernel
theorem dJ2_putCharsAt_cd4e5_53 : decode cJ2_putCharsAt_cd4e5 53 = .ok (.ifCond .ne 17, 3) := by decide +kernel
theorem dJ2_putCharsAt_cd4e5_56 : decode cJ2_putCharsAt_cd4e5 56 = .ok (.iload_n 1, 1) := by decide +kernel
theorem dJ2_putCharsAt_cd4e5_57 : decode cJ2_putCharsAt_cd4e5 57 = .ok (.iload 6, 2) := by decide +kernel
theorem dJ2_putCharsAt_cd4e5_59 : decode cJ2_putCharsAt_cd4e5 59 = .ok (.if_icmp .eq 11, 3) := by decide +kernel
theorem dJ2_putCharsAt_cd4e5_62 : decode cJ2_putCharsAt_cd4e5 62 = .ok (.new 52, 3) := by decide +kernel
theorem dJ2_putCharsAt_cd4e5_65 : decode cJ2_putCharsAt_cd4e5 65 = .ok (.dup, 1) := by decide +kernel
theorem dJ2_putCharsAt_cd4e5_66 : decode cJ2_putCharsAt_cd4e5 66 = .ok (.invokespecial 66, 3) := by decide +kernel
theorem dJ2_putCharsAt_cd4e5_69 : decode cJ2_putCharsAt_cd4e5 69 = .ok (.athrow, 1) := by decide +kernel
theorem dJ2_putCharsAt_cd4e5_70 : decode cJ2_putCharsAt_cd4e5 70 = .ok (.iload 6, 2) := by decide +kernel
theorem dJ2_putCharsAt_cd4e5_72 : decode cJ2_putCharsAt_cd4e5 72 = .ok (.ireturn, 1) := by decide +kernel
theorem dJ2_charAt_3b067_0 : decode cJ2_charAt_3b067 0 = .ok (.iload_n 1, 1) := by decide +kernel
theorem dJ2_charAt_3b067_1 : decode cJ2_charAt_3b067 1 = .ok (.aload_n 0, 1) := by decide +kernel
theorem dJ2_charAt_3b067_2 : decode cJ2_charAt_3b067 2 = .ok (.invokestatic 67, 3) := by decide +kernel
theorem dJ2_charAt_3b067_5 : decode cJ2_charAt_3b067 5 = .ok (.aload_n 0, 1) := by decide +kernel
theorem dJ2_charAt_3b067_6 : decode cJ2_charAt_3b067 6 = .ok (.iload_n 1, 1) := by decide +kernel
theorem dJ2_charAt_3b067_7 : decode cJ2_charAt_3b067 7 = .ok (.invokestatic 71, 3) := by decide +kernel
theorem dJ2_charAt_3b067_10 : decode cJ2_charAt_3b067 10 = .ok (.ireturn, 1) := by decide +kernel
theorem dJ2_inflate_0e8fd_0 : decode cJ2_inflate_0e8fd 0 = .ok (.iload_n 3, 1) := by decide +kernel
theorem dJ2_inflate_0e8fd_1 : decode cJ2_inflate_0e8fd 1 = .ok (.iload 4, 2) := by decide +kernel
theorem dJ2_inflate_0e8fd_3 : decode cJ2_inflate_0e8fd 3 = .ok (.aload_n 2, 1) := by decide +kernel
theorem dJ2_inflate_0e8fd_4 : decode cJ2_inflate_0e8fd 4 = .ok (.invokestatic 173, 3) := by decide +kernel
theorem dJ2_inflate_0e8fd_7 : decode cJ2_inflate_0e8fd 7 = .ok (.iconst 0, 1) := by decide +kernel
theorem dJ2_inflate_0e8fd_8 : decode cJ2_inflate_0e8fd 8 = .ok (.istore 5, 2) := by decide +kernel
theorem dJ2_inflate_0e8fd_10 : decode cJ2_inflate_0e8fd 10 = .ok (.iload 5, 2) := by decide +kernel
theorem dJ2_inflate_0e8fd_12 : decode cJ2_inflate_0e8fd 12 = .ok (.iload 4, 2) := by decide +kernel
theorem dJ2_inflate_0e8fd_14 : decode cJ2_inflate_0e8fd 14 = .ok (.if_icmp .ge 27, 3) := by decide +kernel
theorem dJ2_inflate_0e8fd_17 : decode cJ2_inflate_0e8fd 17 = .ok (.aload_n 2, 1) := by decide +kernel
theorem dJ2_inflate_0e8fd_18 : decode cJ2_inflate_0e8fd 18 = .ok (.iload_n 3, 1) := by decide +kernel
theorem dJ2_inflate_0e8fd_19 : decode cJ2_inflate_0e8fd 19 = .ok (.iinc 3 1, 3) := by decide +kernel
theorem dJ2_inflate_0e8fd_22 : decode cJ2_inflate_0e8fd 22 = .ok (.aload_n 0, 1) := by decide +kernel
theorem dJ2_inflate_0e8fd_23 : decode cJ2_inflate_0e8fd 23 = .ok (.iload_n 1, 1) := by decide +kernel
theorem dJ2_inflate_0e8fd_24 : decode cJ2_inflate_0e8fd 24 = .ok (.iinc 1 1, 3) := by decide +kernel
theorem dJ2_inflate_0e8fd_27 : decode cJ2_inflate_0e8fd 27 = .ok (.baload, 1) := by decide +kernel
theorem dJ2_inflate_0e8fd_28 : decode cJ2_inflate_0e8fd 28 = .ok (.sipush 255, 3) := by decide +kernel
theorem dJ2_inflate_0e8fd_31 : decode cJ2_inflate_0e8fd 31 = .ok (.iand, 1) := by decide +kernel
theorem dJ2_inflate_0e8fd_32 : decode cJ2_inflate_0e8fd 32 = .ok (.invokestatic 111, 3) := by decide +kernel
theorem dJ2_inflate_0e8fd_35 : decode cJ2_inflate_0e8fd 35 = .ok (.iinc 5 1, 3) := by decide +kernel
theorem dJ2_inflate_0e8fd_38 : decode cJ2_inflate_0e8fd 38 = .ok (.goto (-28), 3) := by decide +kernel
theorem dJ2_inflate_0e8fd_41 : decode cJ2_inflate_0e8fd 41 = .ok (.return_, 1) := by decide +kernel
theorem dJ2_getChars_ba4f3_0 : decode cJ2_getChars_ba4f3 0 = .ok (.iload_n 1, 1) := by decide +kernel
theorem dJ2_getChars_ba4f3_1 : decode cJ2_getChars_ba4f3 1 = .ok (.istore 5, 2) := by decide +kernel
theorem dJ2_getChars_ba4f3_3 : decode cJ2_getChars_ba4f3 3 = .ok (.iload_n 0, 1) := by decide +kernel
theorem dJ2_getChars_ba4f3_4 : decode cJ2_getChars_ba4f3 4 = .ok (.ifCond .ge 7, 3) := by decide +kernel
theorem dJ2_getChars_ba4f3_7 : decode cJ2_getChars_ba4f3 7 = .ok (.iconst 1, 1) := by decide +kernel
theorem dJ2_getChars_ba4f3_8 : decode cJ2_getChars_ba4f3 8 = .ok (.goto 4, 3) := by decide +kernel
theorem dJ2_getChars_ba4f3_11 : decode cJ2_getChars_ba4f3 11 = .ok (.iconst 0, 1) := by decide +kernel
theorem dJ2_getChars_ba4f3_12 : decode cJ2_getChars_ba4f3 12 = .ok (.istore 6, 2) := by decide +kernel
theorem dJ2_getChars_ba4f3_14 : decode cJ2_getChars_ba4f3 14 = .ok (.iload 6, 2) := by decide +kernel
theorem dJ2_getChars_ba4f3_16 : decode cJ2_getChars_ba4f3 16 = .ok (.ifCond .ne 6, 3) := by decide +kernel
theorem dJ2_getChars_ba4f3_19 : decode cJ2_getChars_ba4f3 19 = .ok (.iload_n 0, 1) := by decide +kernel
theorem dJ2_getChars_ba4f3_20 : decode cJ2_getChars_ba4f3 20 = .ok (.ineg, 1) := by decide +kernel
theorem dJ2_getChars_ba4f3_21 : decode cJ2_getChars_ba4f3 21 = .ok (.istore_n 0, 1) := by decide +kernel
theorem dJ2_getChars_ba4f3_22 : decode cJ2_getChars_ba4f3 22 = .ok (.iload_n 0, 1) := by decide +kernel
theorem dJ2_getChars_ba4f3_23 : decode cJ2_getChars_ba4f3 23 = .ok (.bipush (-100), 2) := by decide +kernel
theorem dJ2_getChars_ba4f3_25 : decode cJ2_getChars_ba4f3 25 = .ok (.if_icmp .gt 51, 3) := by decide +kernel
theorem dJ2_getChars_ba4f3_28 : decode cJ2_getChars_ba4f3 28 = .ok (.iload_n 0, 1) := by decide +kernel
theorem dJ2_getChars_ba4f3_29 : decode cJ2_getChars_ba4f3 29 = .ok (.bipush 100, 2) := by decide +kernel
theorem dJ2_getChars_ba4f3_31 : decode cJ2_getChars_ba4f3 31 = .ok (.idiv, 1) := by decide +kernel
theorem dJ2_getChars_ba4f3_32 : decode cJ2_getChars_ba4f3 32 = .ok (.istore_n 3, 1) := by decide +kernel
theorem dJ2_getChars_ba4f3_33 : decode cJ2_getChars_ba4f3 33 = .ok (.iload_n 3, 1) := by decide +kernel
theorem dJ2_getChars_ba4f3_34 : decode cJ2_getChars_ba4f3 34 = .ok (.bipush 100, 2) := by decide +kernel
theorem dJ2_getChars_ba4f3_36 : decode cJ2_getChars_ba4f3 36 = .ok (.imul, 1) := by decide +kernel
theorem dJ2_getChars_ba4f3_37 : decode cJ2_getChars_ba4f3 37 = .ok (.iload_n 0, 1) := by decide +kernel
theorem dJ2_getChars_ba4f3_38 : decode cJ2_getChars_ba4f3 38 = .ok (.isub, 1) := by decide +kernel
theorem dJ2_getChars_ba4f3_39 : decode cJ2_getChars_ba4f3 39 = .ok (.istore 4, 2) := by decide +kernel
theorem dJ2_getChars_ba4f3_41 : decode cJ2_getChars_ba4f3 41 = .ok (.iload_n 3, 1) := by decide +kernel
theorem dJ2_getChars_ba4f3_42 : decode cJ2_getChars_ba4f3 42 = .ok (.istore_n 0, 1) := by decide +kernel
theorem dJ2_getChars_ba4f3_43 : decode cJ2_getChars_ba4f3 43 = .ok (.aload_n 2, 1) := by decide +kernel
theorem dJ2_getChars_ba4f3_44 : decode cJ2_getChars_ba4f3 44 = .ok (.iinc 5 (-1), 3) := by decide +kernel
theorem dJ2_getChars_ba4f3_47 : decode cJ2_getChars_ba4f3 47 = .ok (.iload 5, 2) := by decide +kernel
theorem dJ2_getChars_ba4f3_49 : decode cJ2_getChars_ba4f3 49 = .ok (.getstatic 403, 3) := by decide +kernel
theorem dJ2_getChars_ba4f3_52 : decode cJ2_getChars_ba4f3 52 = .ok (.iload 4, 2) := by decide +kernel
theorem dJ2_getChars_ba4f3_54 : decode cJ2_getChars_ba4f3 54 = .ok (.baload, 1) := by decide +kernel
theorem dJ2_getChars_ba4f3_55 : decode cJ2_getChars_ba4f3 55 = .ok (.invokestatic 111, 3) := by decide +kernel
theorem dJ2_getChars_ba4f3_58 : decode cJ2_getChars_ba4f3 58 = .ok (.aload_n 2, 1) := by decide +kernel
theorem dJ2_getChars_ba4f3_59 : decode cJ2_getChars_ba4f3 59 = .ok (.iinc 5 (-1), 3) := by decide +kernel
theorem dJ2_getChars_ba4f3_62 : decode cJ2_getChars_ba4f3 62 = .ok (.iload 5, 2) := by decide +kernel
theorem dJ2_getChars_ba4f3_64 : decode cJ2_getChars_ba4f3 64 = .ok (.getstatic 407, 3) := by decide +kernel
theorem dJ2_getChars_ba4f3_67 : decode cJ2_getChars_ba4f3 67 = .ok (.iload 4, 2) := by decide +kernel
theorem dJ2_getChars_ba4f3_69 : decode cJ2_getChars_ba4f3 69 = .ok (.baload, 1) := by decide +kernel
theorem dJ2_getChars_ba4f3_70 : decode cJ2_getChars_ba4f3 70 = .ok (.invokestatic 111, 3) := by decide +kernel
theorem dJ2_getChars_ba4f3_73 : decode cJ2_getChars_ba4f3 73 = .ok (.goto (-51), 3) := by decide +kernel
theorem dJ2_getChars_ba4f3_76 : decode cJ2_getChars_ba4f3 76 = .ok (.aload_n 2, 1) := by decide +kernel
theorem dJ2_getChars_ba4f3_77 : decode cJ2_getChars_ba4f3 77 = .ok (.iinc 5 (-1), 3) := by decide +kernel
theorem dJ2_getChars_ba4f3_80 : decode cJ2_getChars_ba4f3 80 = .ok (.iload 5, 2) := by decide +kernel
theorem dJ2_getChars_ba4f3_82 : decode cJ2_getChars_ba4f3 82 = .ok (.getstatic 403, 3) := by decide +kernel
theorem dJ2_getChars_ba4f3_85 : decode cJ2_getChars_ba4f3 85 = .ok (.iload_n 0, 1) := by decide +kernel
theorem dJ2_getChars_ba4f3_86 : decode cJ2_getChars_ba4f3 86 = .ok (.ineg, 1) := by decide +kernel
theorem dJ2_getChars_ba4f3_87 : decode cJ2_getChars_ba4f3 87 = .ok (.baload, 1) := by decide +kernel
theorem dJ2_getChars_ba4f3_88 : decode cJ2_getChars_ba4f3 88 = .ok (.invokestatic 111, 3) := by decide +kernel
theorem dJ2_getChars_ba4f3_91 : decode cJ2_getChars_ba4f3 91 = .ok (.iload_n 0, 1) := by decide +kernel
theorem dJ2_getChars_ba4f3_92 : decode cJ2_getChars_ba4f3 92 = .ok (.bipush (-9), 2) := by decide +kernel
theorem dJ2_getChars_ba4f3_94 : decode cJ2_getChars_ba4f3 94 = .ok (.if_icmp .ge 18, 3) := by decide +kernel
theorem dJ2_getChars_ba4f3_97 : decode cJ2_getChars_ba4f3 97 = .ok (.aload_n 2, 1) := by decide +kernel
theorem dJ2_getChars_ba4f3_98 : decode cJ2_getChars_ba4f3 98 = .ok (.iinc 5 (-1), 3) := by decide +kernel
theorem dJ2_getChars_ba4f3_101 : decode cJ2_getChars_ba4f3 101 = .ok (.iload 5, 2) := by decide +kernel
theorem dJ2_getChars_ba4f3_103 : decode cJ2_getChars_ba4f3 103 = .ok (.getstatic 407, 3) := by decide +kernel
theorem dJ2_getChars_ba4f3_106 : decode cJ2_getChars_ba4f3 106 = .ok (.iload_n 0, 1) := by decide +kernel
theorem dJ2_getChars_ba4f3_107 : decode cJ2_getChars_ba4f3 107 = .ok (.ineg, 1) := by decide +kernel
theorem dJ2_getChars_ba4f3_108 : decode cJ2_getChars_ba4f3 108 = .ok (.baload, 1) := by decide +kernel
theorem dJ2_getChars_ba4f3_109 : decode cJ2_getChars_ba4f3 109 = .ok (.invokestatic 111, 3) := by decide +kernel
theorem dJ2_getChars_ba4f3_112 : decode cJ2_getChars_ba4f3 112 = .ok (.iload 6, 2) := by decide +kernel
theorem dJ2_getChars_ba4f3_114 : decode cJ2_getChars_ba4f3 114 = .ok (.ifCond .eq 14, 3) := by decide +kernel
theorem dJ2_getChars_ba4f3_117 : decode cJ2_getChars_ba4f3 117 = .ok (.aload_n 2, 1) := by decide +kernel
theorem dJ2_getChars_ba4f3_118 : decode cJ2_getChars_ba4f3 118 = .ok (.iinc 5 (-1), 3) := by decide +kernel
theorem dJ2_getChars_ba4f3_121 : decode cJ2_getChars_ba4f3 121 = .ok (.iload 5, 2) := by decide +kernel
theorem dJ2_getChars_ba4f3_123 : decode cJ2_getChars_ba4f3 123 = .ok (.bipush 45, 2) := by decide +kernel
theorem dJ2_getChars_ba4f3_125 : decode cJ2_getChars_ba4f3 125 = .ok (.invokestatic 111, 3) := by decide +kernel
theorem dJ2_getChars_ba4f3_128 : decode cJ2_getChars_ba4f3 128 = .ok (.iload 5, 2) := by decide +kernel
theorem dJ2_getChars_ba4f3_130 : decode cJ2_getChars_ba4f3 130 = .ok (.ireturn, 1) := by decide +kernel
theorem dJ2_checkIndex_2214a_0 : decode cJ2_checkIndex_2214a 0 = .ok (.iload_n 0, 1) := by decide +kernel
theorem dJ2_checkIndex_2214a_1 : decode cJ2_checkIndex_2214a 1 = .ok (.aload_n 1, 1) := by decide +kernel
theorem dJ2_checkIndex_2214a_2 : decode cJ2_checkIndex_2214a 2 = .ok (.invokestatic 48, 3) := by decide +kernel
theorem dJ2_checkIndex_2214a_5 : decode cJ2_checkIndex_2214a 5 = .ok (.invokestatic 414, 3) := by decide +kernel
theorem dJ2_checkIndex_2214a_8 : decode cJ2_checkIndex_2214a 8 = .ok (.return_, 1) := by decide +kernel
theorem dJ2_checkBoundsBeginEnd_d044e_0 : decode cJ2_checkBoundsBeginEnd_d044e 0 = .ok (.iload_n 0, 1) := by decide +kernel
theorem dJ2_checkBoundsBeginEnd_d044e_1 : decode cJ2_checkBoundsBeginEnd_d044e 1 = .ok (.iload_n 1, 1) := by decide +kernel
theorem dJ2_checkBoundsBeginEnd_d044e_2 : decode cJ2_checkBoundsBeginEnd_d044e 2 = .ok (.aload_n 2, 1) := by decide +kernel
theorem dJ2_checkBoundsBeginEnd_d044e_3 : decode cJ2_checkBoundsBeginEnd_d044e 3 = .ok (.invokestatic 48, 3) := by decide +kernel
theorem dJ2_checkBoundsBeginEnd_d044e_6 : decode cJ2_checkBoundsBeginEnd_d044e 6 = .ok (.invokestatic 241, 3) := by decide +kernel
theorem dJ2_checkBoundsBeginEnd_d044e_9 : decode cJ2_checkBoundsBeginEnd_d044e 9 = .ok (.return_, 1) := by decide +kernel
theorem dJ2_checkBoundsOffCount_d044e_0 : decode cJ2_checkBoundsOffCount_d044e 0 = .ok (.iload_n 0, 1) := by decide +kernel
theorem dJ2_checkBoundsOffCount_d044e_1 : decode cJ2_checkBoundsOffCount_d044e 1 = .ok (.iload_n 1, 1) := by decide +kernel
theorem dJ2_checkBoundsOffCount_d044e_2 : decode cJ2_checkBoundsOffCount_d044e 2 = .ok (.aload_n 2, 1) := by decide +kernel
theorem dJ2_checkBoundsOffCount_d044e_3 : decode cJ2_checkBoundsOffCount_d044e 3 = .ok (.invokestatic 48, 3) := by decide +kernel
theorem dJ2_checkBoundsOffCount_d044e_6 : decode cJ2_checkBoundsOffCount_d044e 6 = .ok (.invokestatic 419, 3) := by decide +kernel
theorem dJ2_checkBoundsOffCount_d044e_9 : decode cJ2_checkBoundsOffCount_d044e 9 = .ok (.pop, 1) := by decide +kernel
theorem dJ2_checkBoundsOffCount_d044e_10 : decode cJ2_checkBoundsOffCount_d044e 10 = .ok (.return_, 1) := by decide +kernel
theorem dJ7_copyOf_9075b_0 : decode cJ7_copyOf_9075b 0 = .ok (.iload_n 1, 1) := by decide +kernel
theorem dJ7_copyOf_9075b_1 : decode cJ7_copyOf_9075b 1 = .ok (.aload_n 0, 1) := by decide +kernel
theorem dJ7_copyOf_9075b_2 : decode cJ7_copyOf_9075b 2 = .ok (.arraylength, 1) := by decide +kernel
theorem dJ7_copyOf_9075b_3 : decode cJ7_copyOf_9075b 3 = .ok (.if_icmp .ne 11, 3) := by decide +kernel
theorem dJ7_copyOf_9075b_6 : decode cJ7_copyOf_9075b 6 = .ok (.aload_n 0, 1) := by decide +kernel
theorem dJ7_copyOf_9075b_7 : decode cJ7_copyOf_9075b 7 = .ok (.invokevirtual 310, 3) := by decide +kernel
theorem dJ7_copyOf_9075b_10 : decode cJ7_copyOf_9075b 10 = .ok (.checkcast 311, 3) := by decide +kernel
theorem dJ7_copyOf_9075b_13 : decode cJ7_copyOf_9075b 13 = .ok (.areturn, 1) := by decide +kernel
theorem dJ7_copyOf_9075b_14 : decode cJ7_copyOf_9075b 14 = .ok (.iload_n 1, 1) := by decide +kernel
theorem dJ7_copyOf_9075b_15 : decode cJ7_copyOf_9075b 15 = .ok (.newarray .byte, 2) := by decide +kernel
theorem dJ7_copyOf_9075b_17 : decode cJ7_copyOf_9075b 17 = .ok (.astore_n 2, 1) := by decide +kernel
theorem dJ7_copyOf_9075b_18 : decode cJ7_copyOf_9075b 18 = .ok (.aload_n 0, 1) := by decide +kernel
theorem dJ7_copyOf_9075b_19 : decode cJ7_copyOf_9075b 19 = .ok (.iconst 0, 1) := by decide +kernel
theorem dJ7_copyOf_9075b_20 : decode cJ7_copyOf_9075b 20 = .ok (.aload_n 2, 1) := by decide +kernel
theorem dJ7_copyOf_9075b_21 : decode cJ7_copyOf_9075b 21 = .ok (.iconst 0, 1) := by decide +kernel
theorem dJ7_copyOf_9075b_22 : decode cJ7_copyOf_9075b 22 = .ok (.aload_n 0, 1) := by decide +kernel
theorem dJ7_copyOf_9075b_23 : decode cJ7_copyOf_9075b 23 = .ok (.arraylength, 1) := by decide +kernel
theorem dJ7_copyOf_9075b_24 : decode cJ7_copyOf_9075b 24 = .ok (.iload_n 1, 1) := by decide +kernel
theorem dJ7_copyOf_9075b_25 : decode cJ7_copyOf_9075b 25 = .ok (.invokestatic 304, 3) := by decide +kernel
theorem dJ7_copyOf_9075b_28 : decode cJ7_copyOf_9075b 28 = .ok (.invokestatic 150, 3) := by decide +kernel
theorem dJ7_copyOf_9075b_31 : decode cJ7_copyOf_9075b 31 = .ok (.aload_n 2, 1) := by decide +kernel
theorem dJ7_copyOf_9075b_32 : decode cJ7_copyOf_9075b 32 = .ok (.areturn, 1) := by decide +kernel
theorem dJ7_checkLength_df160_0 : decode cJ7_checkLength_df160 0 = .ok (.iload_n 1, 1) := by decide +kernel
theorem dJ7_checkLength_df160_1 : decode cJ7_checkLength_df160 1 = .ok (.iload_n 0, 1) := by decide +kernel
theorem dJ7_checkLength_df160_2 : decode cJ7_checkLength_df160 2 = .ok (.if_icmp .ge 35, 3) := by decide +kernel
theorem dJ7_checkLength_df160_5 : decode cJ7_checkLength_df160 5 = .ok (.new 43, 3) := by decide +kernel
theorem dJ7_checkLength_df160_8 : decode cJ7_checkLength_df160 8 = .ok (.dup, 1) := by decide +kernel
theorem dJ7_checkLength_df160_9 : decode cJ7_checkLength_df160 9 = .ok (.new 45, 3) := by decide +kernel
theorem dJ7_checkLength_df160_12 : decode cJ7_checkLength_df160 12 = .ok (.dup, 1) := by decide +kernel
theorem dJ7_checkLength_df160_13 : decode cJ7_checkLength_df160 13 = .ok (.invokespecial 47, 3) := by decide +kernel
theorem dJ7_checkLength_df160_16 : decode cJ7_checkLength_df160 16 = .ok (.iload_n 0, 1) := by decide +kernel
theorem dJ7_checkLength_df160_17 : decode cJ7_checkLength_df160 17 = .ok (.invokevirtual 54, 3) := by decide +kernel
theorem dJ7_checkLength_df160_20 : decode cJ7_checkLength_df160 20 = .ok (.ldc_w 337, 3) := by decide +kernel
theorem dJ7_checkLength_df160_23 : decode cJ7_checkLength_df160 23 = .ok (.invokevirtual 50, 3) := by decide +kernel
theorem dJ7_checkLength_df160_26 : decode cJ7_checkLength_df160 26 = .ok (.iload_n 1, 1) := by decide +kernel
theorem dJ7_checkLength_df160_27 : decode cJ7_checkLength_df160 27 = .ok (.invokevirtual 54, 3) := by decide +kernel
theorem dJ7_checkLength_df160_30 : decode cJ7_checkLength_df160 30 = .ok (.invokevirtual 61, 3) := by decide +kernel
theorem dJ7_checkLength_df160_33 : decode cJ7_checkLength_df160 33 = .ok (.invokespecial 65, 3) := by decide +kernel
theorem dJ7_checkLength_df160_36 : decode cJ7_checkLength_df160 36 = .ok (.athrow, 1) := by decide +kernel
theorem dJ7_checkLength_df160_37 : decode cJ7_checkLength_df160 37 = .ok (.return_, 1) := by decide +kernel
theorem dJ7_copyOfRange_39247_0 : decode cJ7_copyOfRange_39247 0 = .ok (.iload_n 1, 1) := by decide +kernel
theorem dJ7_copyOfRange_39247_1 : decode cJ7_copyOfRange_39247 1 = .ok (.ifCond .ne 9, 3) := by decide +kernel
theorem dJ7_copyOfRange_39247_4 : decode cJ7_copyOfRange_39247 4 = .ok (.iload_n 2, 1) := by decide +kernel
theorem dJ7_copyOfRange_39247_5 : decode cJ7_copyOfRange_39247 5 = .ok (.aload_n 0, 1) := by decide +kernel
theorem dJ7_copyOfRange_39247_6 : decode cJ7_copyOfRange_39247 6 = .ok (.arraylength, 1) := by decide +kernel
theorem dJ7_copyOfRange_39247_7 : decode cJ7_copyOfRange_39247 7 = .ok (.if_icmp .eq 10, 3) := by decide +kernel
theorem dJ7_copyOfRange_39247_10 : decode cJ7_copyOfRange_39247 10 = .ok (.aload_n 0, 1) := by decide +kernel
theorem dJ7_copyOfRange_39247_11 : decode cJ7_copyOfRange_39247 11 = .ok (.iload_n 1, 1) := by decide +kernel
theorem dJ7_copyOfRange_39247_12 : decode cJ7_copyOfRange_39247 12 = .ok (.iload_n 2, 1) := by decide +kernel
theorem dJ7_copyOfRange_39247_13 : decode cJ7_copyOfRange_39247 13 = .ok (.invokestatic 339, 3) := by decide +kernel
theorem dJ7_copyOfRange_39247_16 : decode cJ7_copyOfRange_39247 16 = .ok (.areturn, 1) := by decide +kernel
theorem dJ7_copyOfRange_39247_17 : decode cJ7_copyOfRange_39247 17 = .ok (.aload_n 0, 1) := by decide +kernel
theorem dJ7_copyOfRange_39247_18 : decode cJ7_copyOfRange_39247 18 = .ok (.invokevirtual 310, 3) := by decide +kernel
theorem dJ7_copyOfRange_39247_21 : decode cJ7_copyOfRange_39247 21 = .ok (.checkcast 311, 3) := by decide +kernel
theorem dJ7_copyOfRange_39247_24 : decode cJ7_copyOfRange_39247 24 = .ok (.areturn, 1) := by decide +kernel
theorem dJ7_copyOfRangeByte_39247_0 : decode cJ7_copyOfRangeByte_39247 0 = .ok (.iload_n 1, 1) := by decide +kernel
theorem dJ7_copyOfRangeByte_39247_1 : decode cJ7_copyOfRangeByte_39247 1 = .ok (.iload_n 2, 1) := by decide +kernel
theorem dJ7_copyOfRangeByte_39247_2 : decode cJ7_copyOfRangeByte_39247 2 = .ok (.invokestatic 343, 3) := by decide +kernel
theorem dJ7_copyOfRangeByte_39247_5 : decode cJ7_copyOfRangeByte_39247 5 = .ok (.iload_n 2, 1) := by decide +kernel
theorem dJ7_copyOfRangeByte_39247_6 : decode cJ7_copyOfRangeByte_39247 6 = .ok (.iload_n 1, 1) := by decide +kernel
theorem dJ7_copyOfRangeByte_39247_7 : decode cJ7_copyOfRangeByte_39247 7 = .ok (.isub, 1) := by decide +kernel
theorem dJ7_copyOfRangeByte_39247_8 : decode cJ7_copyOfRangeByte_39247 8 = .ok (.istore_n 3, 1) := by decide +kernel
theorem dJ7_copyOfRangeByte_39247_9 : decode cJ7_copyOfRangeByte_39247 9 = .ok (.iload_n 3, 1) := by decide +kernel
theorem dJ7_copyOfRangeByte_39247_10 : decode cJ7_copyOfRangeByte_39247 10 = .ok (.newarray .byte, 2) := by decide +kernel
theorem dJ7_copyOfRangeByte_39247_12 : decode cJ7_copyOfRangeByte_39247 12 = .ok (.astore 4, 2) := by decide +kernel
theorem dJ7_copyOfRangeByte_39247_14 : decode cJ7_copyOfRangeByte_39247 14 = .ok (.aload_n 0, 1) := by decide +kernel
theorem dJ7_copyOfRangeByte_39247_15 : decode cJ7_copyOfRangeByte_39247 15 = .ok (.iload_n 1, 1) := by decide +kernel
theorem dJ7_copyOfRangeByte_39247_16 : decode cJ7_copyOfRangeByte_39247 16 = .ok (.aload 4, 2) := by decide +kernel
theorem dJ7_copyOfRangeByte_39247_18 : decode cJ7_copyOfRangeByte_39247 18 = .ok (.iconst 0, 1) := by decide +kernel
theorem dJ7_copyOfRangeByte_39247_19 : decode cJ7_copyOfRangeByte_39247 19 = .ok (.aload_n 0, 1) := by decide +kernel
theorem dJ7_copyOfRangeByte_39247_20 : decode cJ7_copyOfRangeByte_39247 20 = .ok (.arraylength, 1) := by decide +kernel
theorem dJ7_copyOfRangeByte_39247_21 : decode cJ7_copyOfRangeByte_39247 21 = .ok (.iload_n 1, 1) := by decide +kernel
theorem dJ7_copyOfRangeByte_39247_22 : decode cJ7_copyOfRangeByte_39247 22 = .ok (.isub, 1) := by decide +kernel
theorem dJ7_copyOfRangeByte_39247_23 : decode cJ7_copyOfRangeByte_39247 23 = .ok (.iload_n 3, 1) := by decide +kernel
theorem dJ7_copyOfRangeByte_39247_24 : decode cJ7_copyOfRangeByte_39247 24 = .ok (.invokestatic 304, 3) := by decide +kernel
theorem dJ7_copyOfRangeByte_39247_27 : decode cJ7_copyOfRangeByte_39247 27 = .ok (.invokestatic 150, 3) := by decide +kernel
theorem dJ7_copyOfRangeByte_39247_30 : decode cJ7_copyOfRangeByte_39247 30 = .ok (.aload 4, 2) := by decide +kernel
theorem dJ7_copyOfRangeByte_39247_32 : decode cJ7_copyOfRangeByte_39247 32 = .ok (.areturn, 1) := by decide +kernel
theorem dJ8_newLength_cabcc_0 : decode cJ8_newLength_cabcc 0 = .ok (.iload_n 0, 1) := by decide +kernel
theorem dJ8_newLength_cabcc_1 : decode cJ8_newLength_cabcc 1 = .ok (.iload_n 1, 1) := by decide +kernel
theorem dJ8_newLength_cabcc_2 : decode cJ8_newLength_cabcc 2 = .ok (.iload_n 2, 1) := by decide +kernel
theorem dJ8_newLength_cabcc_3 : decode cJ8_newLength_cabcc 3 = .ok (.invokestatic 194, 3) := by decide +kernel
theorem dJ8_newLength_cabcc_6 : decode cJ8_newLength_cabcc 6 = .ok (.iadd, 1) := by decide +kernel
theorem dJ8_newLength_cabcc_7 : decode cJ8_newLength_cabcc 7 = .ok (.istore_n 3, 1) := by decide +kernel
theorem dJ8_newLength_cabcc_8 : decode cJ8_newLength_cabcc 8 = .ok (.iconst 0, 1) := by decide +kernel
theorem dJ8_newLength_cabcc_9 : decode cJ8_newLength_cabcc 9 = .ok (.iload_n 3, 1) := by decide +kernel
theorem dJ8_newLength_cabcc_10 : decode cJ8_newLength_cabcc 10 = .ok (.if_icmp .ge 11, 3) := by decide +kernel
theorem dJ8_newLength_cabcc_13 : decode cJ8_newLength_cabcc 13 = .ok (.iload_n 3, 1) := by decide +kernel
theorem dJ8_newLength_cabcc_14 : decode cJ8_newLength_cabcc 14 = .ok (.ldc 200, 2) := by decide +kernel
theorem dJ8_newLength_cabcc_16 : decode cJ8_newLength_cabcc 16 = .ok (.if_icmp .gt 5, 3) := by decide +kernel
theorem dJ8_newLength_cabcc_19 : decode cJ8_newLength_cabcc 19 = .ok (.iload_n 3, 1) := by decide +kernel
theorem dJ8_newLength_cabcc_20 : decode cJ8_newLength_cabcc 20 = .ok (.ireturn, 1) := by decide +kernel
theorem dJ8_newLength_cabcc_21 : decode cJ8_newLength_cabcc 21 = .ok (.iload_n 0, 1) := by decide +kernel
theorem dJ8_newLength_cabcc_22 : decode cJ8_newLength_cabcc 22 = .ok (.iload_n 1, 1) := by decide +kernel
theorem dJ8_newLength_cabcc_23 : decode cJ8_newLength_cabcc 23 = .ok (.invokestatic 201, 3) := by decide +kernel
theorem dJ8_newLength_cabcc_26 : decode cJ8_newLength_cabcc 26 = .ok (.ireturn, 1) := by decide +kernel
theorem dJ8_hugeLength_7cf53_0 : decode cJ8_hugeLength_7cf53 0 = .ok (.iload_n 0, 1) := by decide +kernel
theorem dJ8_hugeLength_7cf53_1 : decode cJ8_hugeLength_7cf53 1 = .ok (.iload_n 1, 1) := by decide +kernel
theorem dJ8_hugeLength_7cf53_2 : decode cJ8_hugeLength_7cf53 2 = .ok (.iadd, 1) := by decide +kernel
theorem dJ8_hugeLength_7cf53_3 : decode cJ8_hugeLength_7cf53 3 = .ok (.istore_n 2, 1) := by decide +kernel
theorem dJ8_hugeLength_7cf53_4 : decode cJ8_hugeLength_7cf53 4 = .ok (.iload_n 2, 1) := by decide +kernel
theorem dJ8_hugeLength_7cf53_5 : decode cJ8_hugeLength_7cf53 5 = .ok (.ifCond .ge 44, 3) := by decide +kernel
theorem dJ8_hugeLength_7cf53_8 : decode cJ8_hugeLength_7cf53 8 = .ok (.new 204, 3) := by decide +kernel
theorem dJ8_hugeLength_7cf53_11 : decode cJ8_hugeLength_7cf53 11 = .ok (.dup, 1) := by decide +kernel
theorem dJ8_hugeLength_7cf53_12 : decode cJ8_hugeLength_7cf53 12 = .ok (.new 89, 3) := by decide +kernel
theorem dJ8_hugeLength_7cf53_15 : decode cJ8_hugeLength_7cf53 15 = .ok (.dup, 1) := by decide +kernel
theorem dJ8_hugeLength_7cf53_16 : decode cJ8_hugeLength_7cf53 16 = .ok (.invokespecial 91, 3) := by decide +kernel
theorem dJ8_hugeLength_7cf53_19 : decode cJ8_hugeLength_7cf53 19 = .ok (.ldc 206, 2) := by decide +kernel
theorem dJ8_hugeLength_7cf53_21 : decode cJ8_hugeLength_7cf53 21 = .ok (.invokevirtual 94, 3) := by decide +kernel
theorem dJ8_hugeLength_7cf53_24 : decode cJ8_hugeLength_7cf53 24 = .ok (.iload_n 0, 1) := by decide +kernel
theorem dJ8_hugeLength_7cf53_25 : decode cJ8_hugeLength_7cf53 25 = .ok (.invokevirtual 98, 3) := by decide +kernel
theorem dJ8_hugeLength_7cf53_28 : decode cJ8_hugeLength_7cf53 28 = .ok (.ldc 208, 2) := by decide +kernel
theorem dJ8_hugeLength_7cf53_30 : decode cJ8_hugeLength_7cf53 30 = .ok (.invokevirtual 94, 3) := by decide +kernel
theorem dJ8_hugeLength_7cf53_33 : decode cJ8_hugeLength_7cf53 33 = .ok (.iload_n 1, 1) := by decide +kernel
theorem dJ8_hugeLength_7cf53_34 : decode cJ8_hugeLength_7cf53 34 = .ok (.invokevirtual 98, 3) := by decide +kernel
theorem dJ8_hugeLength_7cf53_37 : decode cJ8_hugeLength_7cf53 37 = .ok (.ldc 210, 2) := by decide +kernel
theorem dJ8_hugeLength_7cf53_39 : decode cJ8_hugeLength_7cf53 39 = .ok (.invokevirtual 94, 3) := by decide +kernel
theorem dJ8_hugeLength_7cf53_42 : decode cJ8_hugeLength_7cf53 42 = .ok (.invokevirtual 101, 3) := by decide +kernel
theorem dJ8_hugeLength_7cf53_45 : decode cJ8_hugeLength_7cf53 45 = .ok (.invokespecial 212, 3) := by decide +kernel
theorem dJ8_hugeLength_7cf53_48 : decode cJ8_hugeLength_7cf53 48 = .ok (.athrow, 1) := by decide +kernel
theorem dJ8_hugeLength_7cf53_49 : decode cJ8_hugeLength_7cf53 49 = .ok (.iload_n 2, 1) := by decide +kernel
theorem dJ8_hugeLength_7cf53_50 : decode cJ8_hugeLength_7cf53 50 = .ok (.ldc 200, 2) := by decide +kernel
theorem dJ8_hugeLength_7cf53_52 : decode cJ8_hugeLength_7cf53 52 = .ok (.if_icmp .gt 6, 3) := by decide +kernel
theorem dJ8_hugeLength_7cf53_55 : decode cJ8_hugeLength_7cf53 55 = .ok (.ldc 200, 2) := by decide +kernel
theorem dJ8_hugeLength_7cf53_57 : decode cJ8_hugeLength_7cf53 57 = .ok (.ireturn, 1) := by decide +kernel
theorem dJ8_hugeLength_7cf53_58 : decode cJ8_hugeLength_7cf53 58 = .ok (.iload_n 2, 1) := by decide +kernel
theorem dJ8_hugeLength_7cf53_59 : decode cJ8_hugeLength_7cf53 59 = .ok (.ireturn, 1) := by decide +kernel
theorem dJ3_checkIndex_8e157_0 : decode cJ3_checkIndex_8e157 0 = .ok (.iload_n 0, 1) := by decide +kernel
theorem dJ3_checkIndex_8e157_1 : decode cJ3_checkIndex_8e157 1 = .ok (.ifCond .lt 8, 3) := by decide +kernel
theorem dJ3_checkIndex_8e157_4 : decode cJ3_checkIndex_8e157 4 = .ok (.iload_n 0, 1) := by decide +kernel
theorem dJ3_checkIndex_8e157_5 : decode cJ3_checkIndex_8e157 5 = .ok (.iload_n 1, 1) := by decide +kernel
theorem dJ3_checkIndex_8e157_6 : decode cJ3_checkIndex_8e157 6 = .ok (.if_icmp .lt 10, 3) := by decide +kernel
theorem dJ3_checkIndex_8e157_9 : decode cJ3_checkIndex_8e157 9 = .ok (.aload_n 2, 1) := by decide +kernel
theorem dJ3_checkIndex_8e157_10 : decode cJ3_checkIndex_8e157 10 = .ok (.iload_n 0, 1) := by decide +kernel
theorem dJ3_checkIndex_8e157_11 : decode cJ3_checkIndex_8e157 11 = .ok (.iload_n 1, 1) := by decide +kernel
theorem dJ3_checkIndex_8e157_12 : decode cJ3_checkIndex_8e157 12 = .ok (.invokestatic 95, 3) := by decide +kernel
theorem dJ3_checkIndex_8e157_15 : decode cJ3_checkIndex_8e157 15 = .ok (.athrow, 1) := by decide +kernel
theorem dJ3_checkIndex_8e157_16 : decode cJ3_checkIndex_8e157 16 = .ok (.iload_n 0, 1) := by decide +kernel
theorem dJ3_checkIndex_8e157_17 : decode cJ3_checkIndex_8e157 17 = .ok (.ireturn, 1) := by decide +kernel
theorem dJ3_checkFromToIndex_8c36e_0 : decode cJ3_checkFromToIndex_8c36e 0 = .ok (.iload_n 0, 1) := by decide +kernel
theorem dJ3_checkFromToIndex_8c36e_1 : decode cJ3_checkFromToIndex_8c36e 1 = .ok (.ifCond .lt 13, 3) := by decide +kernel
theorem dJ3_checkFromToIndex_8c36e_4 : decode cJ3_checkFromToIndex_8c36e 4 = .ok (.iload_n 0, 1) := by decide +kernel
theorem dJ3_checkFromToIndex_8c36e_5 : decode cJ3_checkFromToIndex_8c36e 5 = .ok (.iload_n 1, 1) := by decide +kernel
theorem dJ3_checkFromToIndex_8c36e_6 : decode cJ3_checkFromToIndex_8c36e 6 = .ok (.if_icmp .gt 8, 3) := by decide +kernel
theorem dJ3_checkFromToIndex_8c36e_9 : decode cJ3_checkFromToIndex_8c36e 9 = .ok (.iload_n 1, 1) := by decide +kernel
theorem dJ3_checkFromToIndex_8c36e_10 : decode cJ3_checkFromToIndex_8c36e 10 = .ok (.iload_n 2, 1) := by decide +kernel
theorem dJ3_checkFromToIndex_8c36e_11 : decode cJ3_checkFromToIndex_8c36e 11 = .ok (.if_icmp .le 11, 3) := by decide +kernel
theorem dJ3_checkFromToIndex_8c36e_14 : decode cJ3_checkFromToIndex_8c36e 14 = .ok (.aload_n 3, 1) := by decide +kernel
theorem dJ3_checkFromToIndex_8c36e_15 : decode cJ3_checkFromToIndex_8c36e 15 = .ok (.iload_n 0, 1) := by decide +kernel
theorem dJ3_checkFromToIndex_8c36e_16 : decode cJ3_checkFromToIndex_8c36e 16 = .ok (.iload_n 1, 1) := by decide +kernel
theorem dJ3_checkFromToIndex_8c36e_17 : decode cJ3_checkFromToIndex_8c36e 17 = .ok (.iload_n 2, 1) := by decide +kernel
theorem dJ3_checkFromToIndex_8c36e_18 : decode cJ3_checkFromToIndex_8c36e 18 = .ok (.invokestatic 99, 3) := by decide +kernel
theorem dJ3_checkFromToIndex_8c36e_21 : decode cJ3_checkFromToIndex_8c36e 21 = .ok (.athrow, 1) := by decide +kernel
theorem dJ3_checkFromToIndex_8c36e_22 : decode cJ3_checkFromToIndex_8c36e 22 = .ok (.iload_n 0, 1) := by decide +kernel
theorem dJ3_checkFromToIndex_8c36e_23 : decode cJ3_checkFromToIndex_8c36e 23 = .ok (.ireturn, 1) := by decide +kernel
theorem dJ3_checkFromIndexSize_8c36e_0 : decode cJ3_checkFromIndexSize_8c36e 0 = .ok (.iload_n 2, 1) := by decide +kernel
theorem dJ3_checkFromIndexSize_8c36e_1 : decode cJ3_checkFromIndexSize_8c36e 1 = .ok (.iload_n 0, 1) := by decide +kernel
theorem dJ3_checkFromIndexSize_8c36e_2 : decode cJ3_checkFromIndexSize_8c36e 2 = .ok (.ior, 1) := by decide +kernel
theorem dJ3_checkFromIndexSize_8c36e_3 : decode cJ3_checkFromIndexSize_8c36e 3 = .ok (.iload_n 1, 1) := by decide +kernel
theorem dJ3_checkFromIndexSize_8c36e_4 : decode cJ3_checkFromIndexSize_8c36e 4 = .ok (.ior, 1) := by decide +kernel
theorem dJ3_checkFromIndexSize_8c36e_5 : decode cJ3_checkFromIndexSize_8c36e 5 = .ok (.ifCond .lt 10, 3) := by decide +kernel
theorem dJ3_checkFromIndexSize_8c36e_8 : decode cJ3_checkFromIndexSize_8c36e 8 = .ok (.iload_n 1, 1) := by decide +kernel
theorem dJ3_checkFromIndexSize_8c36e_9 : decode cJ3_checkFromIndexSize_8c36e 9 = .ok (.iload_n 2, 1) := by decide +kernel
theorem dJ3_checkFromIndexSize_8c36e_10 : decode cJ3_checkFromIndexSize_8c36e 10 = .ok (.iload_n 0, 1) := by decide +kernel
theorem dJ3_checkFromIndexSize_8c36e_11 : decode cJ3_checkFromIndexSize_8c36e 11 = .ok (.isub, 1) := by decide +kernel
theorem dJ3_checkFromIndexSize_8c36e_12 : decode cJ3_checkFromIndexSize_8c36e 12 = .ok (.if_icmp .le 11, 3) := by decide +kernel
theorem dJ3_checkFromIndexSize_8c36e_15 : decode cJ3_checkFromIndexSize_8c36e 15 = .ok (.aload_n 3, 1) := by decide +kernel
theorem dJ3_checkFromIndexSize_8c36e_16 : decode cJ3_checkFromIndexSize_8c36e 16 = .ok (.iload_n 0, 1) := by decide +kernel
theorem dJ3_checkFromIndexSize_8c36e_17 : decode cJ3_checkFromIndexSize_8c36e 17 = .ok (.iload_n 1, 1) := by decide +kernel
theorem dJ3_checkFromIndexSize_8c36e_18 : decode cJ3_checkFromIndexSize_8c36e 18 = .ok (.iload_n 2, 1) := by decide +kernel
theorem dJ3_checkFromIndexSize_8c36e_19 : decode cJ3_checkFromIndexSize_8c36e 19 = .ok (.invokestatic 103, 3) := by decide +kernel
theorem dJ3_checkFromIndexSize_8c36e_22 : decode cJ3_checkFromIndexSize_8c36e 22 = .ok (.athrow, 1) := by decide +kernel
theorem dJ3_checkFromIndexSize_8c36e_23 : decode cJ3_checkFromIndexSize_8c36e 23 = .ok (.iload_n 0, 1) := by decide +kernel
theorem dJ3_checkFromIndexSize_8c36e_24 : decode cJ3_checkFromIndexSize_8c36e 24 = .ok (.ireturn, 1) := by decide +kernel
theorem dL_cell_0 : decode cL_cell 0 = .ok (.iload_n 1, 1) := by decide +kernel
theorem dL_cell_1 : decode cL_cell 1 = .ok (.aload_n 0, 1) := by decide +kernel
theorem dL_cell_2 : decode cL_cell 2 = .ok (.arraylength, 1) := by decide +kernel
theorem dL_cell_3 : decode cL_cell 3 = .ok (.if_icmp .ge 9, 3) := by decide +kernel
theorem dL_cell_6 : decode cL_cell 6 = .ok (.aload_n 0, 1) := by decide +kernel
theorem dL_cell_7 : decode cL_cell 7 = .ok (.iload_n 1, 1) := by decide +kernel
theorem dL_cell_8 : decode cL_cell 8 = .ok (.iaload, 1) := by decide +kernel
theorem dL_cell_9 : decode cL_cell 9 = .ok (.goto 4, 3) := by decide +kernel
theorem dL_cell_12 : decode cL_cell 12 = .ok (.iconst 0, 1) := by decide +kernel
theorem dL_cell_13 : decode cL_cell 13 = .ok (.ireturn, 1) := by decide +kernel
theorem dL_in_0 : decode cL_in 0 = .ok (.iload_n 0, 1) := by decide +kernel
theorem dL_in_1 : decode cL_in 1 = .ok (.ldc 7, 2) := by decide +kernel
theorem dL_in_3 : decode cL_in 3 = .ok (.iand, 1) := by decide +kernel
theorem dL_in_4 : decode cL_in 4 = .ok (.iload_n 1, 1) := by decide +kernel
theorem dL_in_5 : decode cL_in 5 = .ok (.irem, 1) := by decide +kernel
theorem dL_in_6 : decode cL_in 6 = .ok (.ireturn, 1) := by decide +kernel
theorem dL_put_0 : decode cL_put 0 = .ok (.aload_n 1, 1) := by decide +kernel
theorem dL_put_1 : decode cL_put 1 = .ok (.astore_n 2, 1) := by decide +kernel
theorem dL_put_2 : decode cL_put 2 = .ok (.aload_n 2, 1) := by decide +kernel
theorem dL_put_3 : decode cL_put 3 = .ok (.invokevirtual 8, 3) := by decide +kernel
theorem dL_put_6 : decode cL_put 6 = .ok (.bipush 20, 2) := by decide +kernel
theorem dL_put_8 : decode cL_put 8 = .ok (.irem, 1) := by decide +kernel
theorem dL_put_9 : decode cL_put 9 = .ok (.ifCond .eq 26, 3) := by decide +kernel
theorem dL_put_12 : decode cL_put 12 = .ok (.new 14, 3) := by decide +kernel
theorem dL_put_15 : decode cL_put 15 = .ok (.dup, 1) := by decide +kernel
theorem dL_put_16 : decode cL_put 16 = .ok (.invokespecial 16, 3) := by decide +kernel
theorem dL_put_19 : decode cL_put 19 = .ok (.aload_n 2, 1) := by decide +kernel
theorem dL_put_20 : decode cL_put 20 = .ok (.invokevirtual 17, 3) := by decide +kernel
theorem dL_put_23 : decode cL_put 23 = .ok (.ldc 21, 2) := by decide +kernel
theorem dL_put_25 : decode cL_put 25 = .ok (.invokevirtual 17, 3) := by decide +kernel
theorem dL_put_28 : decode cL_put 28 = .ok (.invokevirtual 23, 3) := by decide +kernel
theorem dL_put_31 : decode cL_put 31 = .ok (.astore_n 2, 1) := by decide +kernel
theorem dL_put_32 : decode cL_put 32 = .ok (.goto (-30), 3) := by decide +kernel
theorem dL_put_35 : decode cL_put 35 = .ok (.iconst 0, 1) := by decide +kernel
theorem dL_put_36 : decode cL_put 36 = .ok (.istore_n 3, 1) := by decide +kernel
theorem dL_put_37 : decode cL_put 37 = .ok (.iload_n 3, 1) := by decide +kernel
theorem dL_put_38 : decode cL_put 38 = .ok (.aload_n 2, 1) := by decide +kernel
theorem dL_put_39 : decode cL_put 39 = .ok (.invokevirtual 8, 3) := by decide +kernel
theorem dL_put_42 : decode cL_put 42 = .ok (.if_icmp .ge 84, 3) := by decide +kernel
theorem dL_put_45 : decode cL_put 45 = .ok (.iconst 5, 1) := by decide +kernel
theorem dL_put_46 : decode cL_put 46 = .ok (.newarray .int, 2) := by decide +kernel
theorem dL_put_48 : decode cL_put 48 = .ok (.astore 4, 2) := by decide +kernel
theorem dL_put_50 : decode cL_put 50 = .ok (.iconst 0, 1) := by decide +kernel
theorem dL_put_51 : decode cL_put 51 = .ok (.istore 5, 2) := by decide +kernel
theorem dL_put_53 : decode cL_put 53 = .ok (.iload 5, 2) := by decide +kernel
theorem dL_put_55 : decode cL_put 55 = .ok (.bipush 20, 2) := by decide +kernel
theorem dL_put_57 : decode cL_put 57 = .ok (.if_icmp .ge 38, 3) := by decide +kernel
theorem dL_put_60 : decode cL_put 60 = .ok (.aload 4, 2) := by decide +kernel
theorem dL_put_62 : decode cL_put 62 = .ok (.iload 5, 2) := by decide +kernel
theorem dL_put_64 : decode cL_put 64 = .ok (.iconst 4, 1) := by decide +kernel
theorem dL_put_65 : decode cL_put 65 = .ok (.idiv, 1) := by decide +kernel
theorem dL_put_66 : decode cL_put 66 = .ok (.dup2, 1) := by decide +kernel
theorem dL_put_67 : decode cL_put 67 = .ok (.iaload, 1) := by decide +kernel
theorem dL_put_68 : decode cL_put 68 = .ok (.aload_n 2, 1) := by decide +kernel
theorem dL_put_69 : decode cL_put 69 = .ok (.iload_n 3, 1) := by decide +kernel
theorem dL_put_70 : decode cL_put 70 = .ok (.iload 5, 2) := by decide +kernel
theorem dL_put_72 : decode cL_put 72 = .ok (.iadd, 1) := by decide +kernel
theorem dL_put_73 : decode cL_put 73 = .ok (.invokevirtual 27, 3) := by decide +kernel
theorem dL_put_76 : decode cL_put 76 = .ok (.bipush 24, 2) := by decide +kernel
theorem dL_put_78 : decode cL_put 78 = .ok (.bipush 8, 2) := by decide +kernel
theorem dL_put_80 : decode cL_put 80 = .ok (.iload 5, 2) := by decide +kernel
theorem dL_put_82 : decode cL_put 82 = .ok (.iconst 4, 1) := by decide +kernel
theorem dL_put_83 : decode cL_put 83 = .ok (.irem, 1) := by decide +kernel
theorem dL_put_84 : decode cL_put 84 = .ok (.imul, 1) := by decide +kernel
theorem dL_put_85 : decode cL_put 85 = .ok (.isub, 1) := by decide +kernel
theorem dL_put_86 : decode cL_put 86 = .ok (.ishl, 1) := by decide +kernel
theorem dL_put_87 : decode cL_put 87 = .ok (.ior, 1) := by decide +kernel
theorem dL_put_88 : decode cL_put 88 = .ok (.iastore, 1) := by decide +kernel
theorem dL_put_89 : decode cL_put 89 = .ok (.iinc 5 1, 3) := by decide +kernel
theorem dL_put_92 : decode cL_put 92 = .ok (.goto (-39), 3) := by decide +kernel
theorem dL_put_95 : decode cL_put 95 = .ok (.aload_n 0, 1) := by decide +kernel
theorem dL_put_96 : decode cL_put 96 = .ok (.aload 4, 2) := by decide +kernel
theorem dL_put_98 : decode cL_put 98 = .ok (.iconst 0, 1) := by decide +kernel
theorem dL_put_99 : decode cL_put 99 = .ok (.iaload, 1) := by decide +kernel
theorem dL_put_100 : decode cL_put 100 = .ok (.aload 4, 2) := by decide +kernel
theorem dL_put_102 : decode cL_put 102 = .ok (.iconst 1, 1) := by decide +kernel
theorem dL_put_103 : decode cL_put 103 = .ok (.iaload, 1) := by decide +kernel
theorem dL_put_104 : decode cL_put 104 = .ok (.aload 4, 2) := by decide +kernel
theorem dL_put_106 : decode cL_put 106 = .ok (.iconst 2, 1) := by decide +kernel
theorem dL_put_107 : decode cL_put 107 = .ok (.iaload, 1) := by decide +kernel
theorem dL_put_108 : decode cL_put 108 = .ok (.aload 4, 2) := by decide +kernel
theorem dL_put_110 : decode cL_put 110 = .ok (.iconst 3, 1) := by decide +kernel
theorem dL_put_111 : decode cL_put 111 = .ok (.iaload, 1) := by decide +kernel
theorem dL_put_112 : decode cL_put 112 = .ok (.aload 4, 2) := by decide +kernel
theorem dL_put_114 : decode cL_put 114 = .ok (.iconst 4, 1) := by decide +kernel
theorem dL_put_115 : decode cL_put 115 = .ok (.iaload, 1) := by decide +kernel
theorem dL_put_116 : decode cL_put 116 = .ok (.invokevirtual 31, 3) := by decide +kernel
theorem dL_put_119 : decode cL_put 119 = .ok (.pop, 1) := by decide +kernel
theorem dL_put_120 : decode cL_put 120 = .ok (.iinc 3 20, 3) := by decide +kernel
theorem dL_put_123 : decode cL_put 123 = .ok (.goto (-86), 3) := by decide +kernel
theorem dL_put_126 : decode cL_put 126 = .ok (.return_, 1) := by decide +kernel
theorem dL_lines_0 : decode cL_lines 0 = .ok (.iconst 0, 1) := by decide +kernel
theorem dL_lines_1 : decode cL_lines 1 = .ok (.istore_n 1, 1) := by decide +kernel
theorem dL_lines_2 : decode cL_lines 2 = .ok (.iconst 0, 1) := by decide +kernel
theorem dL_lines_3 : decode cL_lines 3 = .ok (.istore_n 2, 1) := by decide +kernel
theorem dL_lines_4 : decode cL_lines 4 = .ok (.iload_n 2, 1) := by decide +kernel
theorem dL_lines_5 : decode cL_lines 5 = .ok (.aload_n 0, 1) := by decide +kernel
theorem dL_lines_6 : decode cL_lines 6 = .ok (.invokevirtual 8, 3) := by decide +kernel
theorem dL_lines_9 : decode cL_lines 9 = .ok (.if_icmp .ge 27, 3) := by decide +kernel
theorem dL_lines_12 : decode cL_lines 12 = .ok (.iload_n 1, 1) := by decide +kernel
theorem dL_lines_13 : decode cL_lines 13 = .ok (.aload_n 0, 1) := by decide +kernel
theorem dL_lines_14 : decode cL_lines 14 = .ok (.iload_n 2, 1) := by decide +kernel
theorem dL_lines_15 : decode cL_lines 15 = .ok (.invokevirtual 27, 3) := by decide +kernel
theorem dL_lines_18 : decode cL_lines 18 = .ok (.bipush 59, 2) := by decide +kernel
theorem dL_lines_20 : decode cL_lines 20 = .ok (.if_icmp .ne 7, 3) := by decide +kernel
theorem dL_lines_23 : decode cL_lines 23 = .ok (.iconst 1, 1) := by decide +kernel
theorem dL_lines_24 : decode cL_lines 24 = .ok (.goto 4, 3) := by decide +kernel
theorem dL_lines_27 : decode cL_lines 27 = .ok (.iconst 0, 1) := by decide +kernel
theorem dL_lines_28 : decode cL_lines 28 = .ok (.iadd, 1) := by decide +kernel
theorem dL_lines_29 : decode cL_lines 29 = .ok (.istore_n 1, 1) := by decide +kernel
theorem dL_lines_30 : decode cL_lines 30 = .ok (.iinc 2 1, 3) := by decide +kernel
theorem dL_lines_33 : decode cL_lines 33 = .ok (.goto (-29), 3) := by decide +kernel
theorem dL_lines_36 : decode cL_lines 36 = .ok (.iload_n 1, 1) := by decide +kernel
theorem dL_lines_37 : decode cL_lines 37 = .ok (.ireturn, 1) := by decide +kernel
theorem dL_places_0 : decode cL_places 0 = .ok (.iconst 2, 1) := by decide +kernel
theorem dL_places_1 : decode cL_places 1 = .ok (.aload_n 0, 1) := by decide +kernel
theorem dL_places_2 : decode cL_places 2 = .ok (.iconst 0, 1) := by decide +kernel
theorem dL_places_3 : decode cL_places 3 = .ok (.invokestatic 37, 3) := by decide +kernel
theorem dL_places_6 : decode cL_places 6 = .ok (.iconst 4, 1) := by decide +kernel
theorem dL_places_7 : decode cL_places 7 = .ok (.invokestatic 43, 3) := by decide +kernel
theorem dL_places_10 : decode cL_places 10 = .ok (.iadd, 1) := by decide +kernel
theorem dL_places_11 : decode cL_places 11 = .ok (.ireturn, 1) := by decide +kernel
theorem dL_carriers_0 : decode cL_carriers 0 = .ok (.iconst 1, 1) := by decide +kernel
theorem dL_carriers_1 : decode cL_carriers 1 = .ok (.aload_n 0, 1) := by decide +kernel
theorem dL_carriers_2 : decode cL_carriers 2 = .ok (.iconst 0, 1) := by decide +kernel
theorem dL_carriers_3 : decode cL_carriers 3 = .ok (.invokestatic 37, 3) := by decide +kernel
theorem dL_carriers_6 : decode cL_carriers 6 = .ok (.iconst 4, 1) := by decide +kernel
theorem dL_carriers_7 : decode cL_carriers 7 = .ok (.idiv, 1) := by decide +kernel
theorem dL_carriers_8 : decode cL_carriers 8 = .ok (.iconst 4, 1) := by decide +kernel
theorem dL_carriers_9 : decode cL_carriers 9 = .ok (.invokestatic 43, 3) := by decide +kernel
theorem dL_carriers_12 : decode cL_carriers 12 = .ok (.iadd, 1) := by decide +kernel
theorem dL_carriers_13 : decode cL_carriers 13 = .ok (.ireturn, 1) := by decide +kernel
theorem dL_provisos_0 : decode cL_provisos 0 = .ok (.aload_n 0, 1) := by decide +kernel
theorem dL_provisos_1 : decode cL_provisos 1 = .ok (.iconst 0, 1) := by decide +kernel
theorem dL_provisos_2 : decode cL_provisos 2 = .ok (.invokestatic 37, 3) := by decide +kernel
theorem dL_provisos_5 : decode cL_provisos 5 = .ok (.bipush 16, 2) := by decide +kernel
theorem dL_provisos_7 : decode cL_provisos 7 = .ok (.idiv, 1) := by decide +kernel
theorem dL_provisos_8 : decode cL_provisos 8 = .ok (.bipush 6, 2) := by decide +kernel
theorem dL_provisos_10 : decode cL_provisos 10 = .ok (.invokestatic 43, 3) := by decide +kernel
theorem dL_provisos_13 : decode cL_provisos 13 = .ok (.ireturn, 1) := by decide +kernel
theorem dL_bands_0 : decode cL_bands 0 = .ok (.aload_n 0, 1) := by decide +kernel
theorem dL_bands_1 : decode cL_bands 1 = .ok (.iconst 0, 1) := by decide +kernel
theorem dL_bands_2 : decode cL_bands 2 = .ok (.invokestatic 37, 3) := by decide +kernel
theorem dL_bands_5 : decode cL_bands 5 = .ok (.sipush 128, 3) := by decide +kernel
theorem dL_bands_8 : decode cL_bands 8 = .ok (.idiv, 1) := by decide +kernel
theorem dL_bands_9 : decode cL_bands 9 = .ok (.iconst 3, 1) := by decide +kernel
theorem dL_bands_10 : decode cL_bands 10 = .ok (.invokestatic 43, 3) := by decide +kernel
theorem dL_bands_13 : decode cL_bands 13 = .ok (.ireturn, 1) := by decide +kernel
theorem dL_tickets_0 : decode cL_tickets 0 = .ok (.iconst 1, 1) := by decide +kernel
theorem dL_tickets_1 : decode cL_tickets 1 = .ok (.aload_n 0, 1) := by decide +kernel
theorem dL_tickets_2 : decode cL_tickets 2 = .ok (.iconst 0, 1) := by decide +kernel
theorem dL_tickets_3 : decode cL_tickets 3 = .ok (.invokestatic 37, 3) := by decide +kernel
theorem dL_tickets_6 : decode cL_tickets 6 = .ok (.sipush 512, 3) := by decide +kernel
theorem dL_tickets_9 : decode cL_tickets 9 = .ok (.idiv, 1) := by decide +kernel
theorem dL_tickets_10 : decode cL_tickets 10 = .ok (.iconst 3, 1) := by decide +kernel
theorem dL_tickets_11 : decode cL_tickets 11 = .ok (.invokestatic 43, 3) := by decide +kernel
theorem dL_tickets_14 : decode cL_tickets 14 = .ok (.iadd, 1) := by decide +kernel
theorem dL_tickets_15 : decode cL_tickets 15 = .ok (.ireturn, 1) := by decide +kernel
theorem dL_bases_0 : decode cL_bases 0 = .ok (.aload_n 0, 1) := by decide +kernel
theorem dL_bases_1 : decode cL_bases 1 = .ok (.iconst 0, 1) := by decide +kernel
theorem dL_bases_2 : decode cL_bases 2 = .ok (.invokestatic 37, 3) := by decide +kernel
theorem dL_bases_5 : decode cL_bases 5 = .ok (.sipush 2048, 3) := by decide +kernel
theorem dL_bases_8 : decode cL_bases 8 = .ok (.idiv, 1) := by decide +kernel
theorem dL_bases_9 : decode cL_bases 9 = .ok (.iconst 4, 1) := by decide +kernel
theorem dL_bases_10 : decode cL_bases 10 = .ok (.invokestatic 43, 3) := by decide +kernel
theorem dL_bases_13 : decode cL_bases 13 = .ok (.ireturn, 1) := by decide +kernel
theorem dL_rate_0 : decode cL_rate 0 = .ok (.aload_n 0, 1) := by decide +kernel
theorem dL_rate_1 : decode cL_rate 1 = .ok (.iconst 0, 1) := by decide +kernel
theorem dL_rate_2 : decode cL_rate 2 = .ok (.invokestatic 37, 3) := by decide +kernel
theorem dL_rate_5 : decode cL_rate 5 = .ok (.sipush 8192, 3) := by decide +kernel
theorem dL_rate_8 : decode cL_rate 8 = .ok (.idiv, 1) := by decide +kernel
theorem dL_rate_9 : decode cL_rate 9 = .ok (.iconst 2, 1) := by decide +kernel
theorem dL_rate_10 : decode cL_rate 10 = .ok (.invokestatic 43, 3) := by decide +kernel
theorem dL_rate_13 : decode cL_rate 13 = .ok (.ifCond .ne 8, 3) := by decide +kernel
theorem dL_rate_16 : decode cL_rate 16 = .ok (.bipush 10, 2) := by decide +kernel
theorem dL_rate_18 : decode cL_rate 18 = .ok (.goto 19, 3) := by decide +kernel
theorem dL_rate_21 : decode cL_rate 21 = .ok (.iconst 1, 1) := by decide +kernel
theorem dL_rate_22 : decode cL_rate 22 = .ok (.aload_n 0, 1) := by decide +kernel
theorem dL_rate_23 : decode cL_rate 23 = .ok (.iconst 0, 1) := by decide +kernel
theorem dL_rate_24 : decode cL_rate 24 = .ok (.invokestatic 37, 3) := by decide +kernel
theorem dL_rate_27 : decode cL_rate 27 = .ok (.sipush 16384, 3) := by decide +kernel
theorem dL_rate_30 : decode cL_rate 30 = .ok (.idiv, 1) := by decide +kernel
theorem dL_rate_31 : decode cL_rate 31 = .ok (.bipush 40, 2) := by decide +kernel
theorem dL_rate_33 : decode cL_rate 33 = .ok (.invokestatic 43, 3) := by decide +kernel
theorem dL_rate_36 : decode cL_rate 36 = .ok (.iadd, 1) := by decide +kernel
theorem dL_rate_37 : decode cL_rate 37 = .ok (.ireturn, 1) := by decide +kernel
theorem dL_leg_0 : decode cL_leg 0 = .ok (.iconst 1, 1) := by decide +kernel
theorem dL_leg_1 : decode cL_leg 1 = .ok (.aload_n 0, 1) := by decide +kernel
theorem dL_leg_2 : decode cL_leg 2 = .ok (.iconst 1, 1) := by decide +kernel
theorem dL_leg_3 : decode cL_leg 3 = .ok (.invokestatic 37, 3) := by decide +kernel
theorem dL_leg_6 : decode cL_leg 6 = .ok (.iconst 5, 1) := by decide +kernel
theorem dL_leg_7 : decode cL_leg 7 = .ok (.iload_n 1, 1) := by decide +kernel
theorem dL_leg_8 : decode cL_leg 8 = .ok (.imul, 1) := by decide +kernel
theorem dL_leg_9 : decode cL_leg 9 = .ok (.ishr, 1) := by decide +kernel
theorem dL_leg_10 : decode cL_leg 10 = .ok (.bipush 32, 2) := by decide +kernel
theorem dL_leg_12 : decode cL_leg 12 = .ok (.invokestatic 43, 3) := by decide +kernel
theorem dL_leg_15 : decode cL_leg 15 = .ok (.iadd, 1) := by decide +kernel
theorem dL_leg_16 : decode cL_leg 16 = .ok (.ireturn, 1) := by decide +kernel
theorem dL_ring_0 : decode cL_ring 0 = .ok (.aload_n 0, 1) := by decide +kernel
theorem dL_ring_1 : decode cL_ring 1 = .ok (.invokestatic 47, 3) := by decide +kernel
theorem dL_ring_4 : decode cL_ring 4 = .ok (.iconst 2, 1) := by decide +kernel
theorem dL_ring_5 : decode cL_ring 5 = .ok (.if_icmp .le 32, 3) := by decide +kernel
theorem dL_ring_8 : decode cL_ring 8 = .ok (.aload_n 0, 1) := by decide +kernel
theorem dL_ring_9 : decode cL_ring 9 = .ok (.iconst 2, 1) := by decide +kernel
theorem dL_ring_10 : decode cL_ring 10 = .ok (.invokestatic 37, 3) := by decide +kernel
theorem dL_ring_13 : decode cL_ring 13 = .ok (.iconst 2, 1) := by decide +kernel
theorem dL_ring_14 : decode cL_ring 14 = .ok (.invokestatic 43, 3) := by decide +kernel
theorem dL_ring_17 : decode cL_ring 17 = .ok (.ifCond .ne 20, 3) := by decide +kernel
theorem dL_ring_20 : decode cL_ring 20 = .ok (.iconst 1, 1) := by decide +kernel
theorem dL_ring_21 : decode cL_ring 21 = .ok (.aload_n 0, 1) := by decide +kernel
theorem dL_ring_22 : decode cL_ring 22 = .ok (.iconst 2, 1) := by decide +kernel
theorem dL_ring_23 : decode cL_ring 23 = .ok (.invokestatic 37, 3) := by decide +kernel
theorem dL_ring_26 : decode cL_ring 26 = .ok (.iconst 2, 1) := by decide +kernel
theorem dL_ring_27 : decode cL_ring 27 = .ok (.idiv, 1) := by decide +kernel
theorem dL_ring_28 : decode cL_ring 28 = .ok (.bipush 90, 2) := by decide +kernel
theorem dL_ring_30 : decode cL_ring 30 = .ok (.invokestatic 43, 3) := by decide +kernel
theorem dL_ring_33 : decode cL_ring 33 = .ok (.iadd, 1) := by decide +kernel
theorem dL_ring_34 : decode cL_ring 34 = .ok (.goto 4, 3) := by decide +kernel
theorem dL_ring_37 : decode cL_ring 37 = .ok (.iconst 0, 1) := by decide +kernel
theorem dL_ring_38 : decode cL_ring 38 = .ok (.ireturn, 1) := by decide +kernel
theorem dL_upTo_0 : decode cL_upTo 0 = .ok (.bipush 10, 2) := by decide +kernel
theorem dL_upTo_2 : decode cL_upTo 2 = .ok (.aload_n 0, 1) := by decide +kernel
theorem dL_upTo_3 : decode cL_upTo 3 = .ok (.iconst 2, 1) := by decide +kernel
theorem dL_upTo_4 : decode cL_upTo 4 = .ok (.invokestatic 37, 3) := by decide +kernel
theorem dL_upTo_7 : decode cL_upTo 7 = .ok (.sipush 512, 3) := by decide +kernel
theorem dL_upTo_10 : decode cL_upTo 10 = .ok (.idiv, 1) := by decide +kernel
theorem dL_upTo_11 : decode cL_upTo 11 = .ok (.bipush 30, 2) := by decide +kernel
theorem dL_upTo_13 : decode cL_upTo 13 = .ok (.invokestatic 43, 3) := by decide +kernel
theorem dL_upTo_16 : decode cL_upTo 16 = .ok (.iadd, 1) := by decide +kernel
theorem dL_upTo_17 : decode cL_upTo 17 = .ok (.bipush 40, 2) := by decide +kernel
theorem dL_upTo_19 : decode cL_upTo 19 = .ok (.iload_n 1, 1) := by decide +kernel
theorem dL_upTo_20 : decode cL_upTo 20 = .ok (.imul, 1) := by decide +kernel
theorem dL_upTo_21 : decode cL_upTo 21 = .ok (.iadd, 1) := by decide +kernel
theorem dL_upTo_22 : decode cL_upTo 22 = .ok (.ireturn, 1) := by decide +kernel
theorem dL_weight_0 : decode cL_weight 0 = .ok (.bipush 50, 2) := by decide +kernel
theorem dL_weight_2 : decode cL_weight 2 = .ok (.aload_n 0, 1) := by decide +kernel
theorem dL_weight_3 : decode cL_weight 3 = .ok (.iconst 2, 1) := by decide +kernel
theorem dL_weight_4 : decode cL_weight 4 = .ok (.invokestatic 37, 3) := by decide +kernel
theorem dL_weight_7 : decode cL_weight 7 = .ok (.bipush 16, 2) := by decide +kernel
theorem dL_weight_9 : decode cL_weight 9 = .ok (.iconst 5, 1) := by decide +kernel
theorem dL_weight_10 : decode cL_weight 10 = .ok (.iload_n 1, 1) := by decide +kernel
theorem dL_weight_11 : decode cL_weight 11 = .ok (.imul, 1) := by decide +kernel
theorem dL_weight_12 : decode cL_weight 12 = .ok (.iadd, 1) := by decide +kernel
theorem dL_weight_13 : decode cL_weight 13 = .ok (.ishr, 1) := by decide +kernel
theorem dL_weight_14 : decode cL_weight 14 = .ok (.sipush 200, 3) := by decide +kernel
theorem dL_weight_17 : decode cL_weight 17 = .ok (.invokestatic 43, 3) := by decide +kernel
theorem dL_weight_20 : decode cL_weight 20 = .ok (.iadd, 1) := by decide +kernel
theorem dL_weight_21 : decode cL_weight 21 = .ok (.ireturn, 1) := by decide +kernel
theorem dL_pro_0 : decode cL_pro 0 = .ok (.aload_n 0, 1) := by decide +kernel
theorem dL_pro_1 : decode cL_pro 1 = .ok (.iconst 3, 1) := by decide +kernel
theorem dL_pro_2 : decode cL_pro 2 = .ok (.iload_n 1, 1) := by decide +kernel
theorem dL_pro_3 : decode cL_pro 3 = .ok (.iadd, 1) := by decide +kernel
theorem dL_pro_4 : decode cL_pro 4 = .ok (.invokestatic 37, 3) := by decide +kernel
theorem dL_pro_7 : decode cL_pro 7 = .ok (.istore_n 3, 1) := by decide +kernel
theorem dL_pro_8 : decode cL_pro 8 = .ok (.iload_n 3, 1) := by decide +kernel
theorem dL_pro_9 : decode cL_pro 9 = .ok (.aload_n 0, 1) := by decide +kernel
theorem dL_pro_10 : decode cL_pro 10 = .ok (.invokestatic 51, 3) := by decide +kernel
theorem dL_pro_13 : decode cL_pro 13 = .ok (.invokestatic 43, 3) := by decide +kernel
theorem dL_pro_16 : decode cL_pro 16 = .ok (.istore 4, 2) := by decide +kernel
theorem dL_pro_18 : decode cL_pro 18 = .ok (.iload_n 3, 1) := by decide +kernel
theorem dL_pro_19 : decode cL_pro 19 = .ok (.iconst 4, 1) := by decide +kernel
theorem dL_pro_20 : decode cL_pro 20 = .ok (.idiv, 1) := by decide +kernel
theorem dL_pro_21 : decode cL_pro 21 = .ok (.aload_n 0, 1) := by decide +kernel
theorem dL_pro_22 : decode cL_pro 22 = .ok (.invokestatic 47, 3) := by decide +kernel
theorem dL_pro_25 : decode cL_pro 25 = .ok (.invokestatic 43, 3) := by decide +kernel
theorem dL_pro_28 : decode cL_pro 28 = .ok (.istore 5, 2) := by decide +kernel
theorem dL_pro_30 : decode cL_pro 30 = .ok (.iload_n 2, 1) := by decide +kernel
theorem dL_pro_31 : decode cL_pro 31 = .ok (.tableswitch 146 0 4 #[33, 36, 55, 95, 107], 33) := by decide +kernel
theorem dL_pro_64 : decode cL_pro 64 = .ok (.iload 4, 2) := by decide +kernel
theorem dL_pro_66 : decode cL_pro 66 = .ok (.ireturn, 1) := by decide +kernel
theorem dL_pro_67 : decode cL_pro 67 = .ok (.iload_n 3, 1) := by decide +kernel
theorem dL_pro_68 : decode cL_pro 68 = .ok (.bipush 32, 2) := by decide +kernel
theorem dL_pro_70 : decode cL_pro 70 = .ok (.idiv, 1) := by decide +kernel
theorem dL_pro_71 : decode cL_pro 71 = .ok (.iconst 2, 1) := by decide +kernel
theorem dL_pro_72 : decode cL_pro 72 = .ok (.invokestatic 43, 3) := by decide +kernel
theorem dL_pro_75 : decode cL_pro 75 = .ok (.ifCond .ne 8, 3) := by decide +kernel
theorem dL_pro_78 : decode cL_pro 78 = .ok (.bipush (-2), 2) := by decide +kernel
theorem dL_pro_80 : decode cL_pro 80 = .ok (.goto 5, 3) := by decide +kernel
theorem dL_pro_83 : decode cL_pro 83 = .ok (.iload 5, 2) := by decide +kernel
theorem dL_pro_85 : decode cL_pro 85 = .ok (.ireturn, 1) := by decide +kernel
theorem dL_pro_86 : decode cL_pro 86 = .ok (.iload_n 3, 1) := by decide +kernel
theorem dL_pro_87 : decode cL_pro 87 = .ok (.bipush 32, 2) := by decide +kernel
theorem dL_pro_89 : decode cL_pro 89 = .ok (.idiv, 1) := by decide +kernel
theorem dL_pro_90 : decode cL_pro 90 = .ok (.iconst 2, 1) := by decide +kernel
theorem dL_pro_91 : decode cL_pro 91 = .ok (.invokestatic 43, 3) := by decide +kernel
theorem dL_pro_94 : decode cL_pro 94 = .ok (.ifCond .ne 8, 3) := by decide +kernel
theorem dL_pro_97 : decode cL_pro 97 = .ok (.bipush (-2), 2) := by decide +kernel
theorem dL_pro_99 : decode cL_pro 99 = .ok (.goto 26, 3) := by decide +kernel
theorem dL_pro_102 : decode cL_pro 102 = .ok (.iload 5, 2) := by decide +kernel
theorem dL_pro_104 : decode cL_pro 104 = .ok (.iconst 1, 1) := by decide +kernel
theorem dL_pro_105 : decode cL_pro 105 = .ok (.iadd, 1) := by decide +kernel
theorem dL_pro_106 : decode cL_pro 106 = .ok (.iload_n 3, 1) := by decide +kernel
theorem dL_pro_107 : decode cL_pro 107 = .ok (.bipush 64, 2) := by decide +kernel
theorem dL_pro_109 : decode cL_pro 109 = .ok (.idiv, 1) := by decide +kernel
theorem dL_pro_110 : decode cL_pro 110 = .ok (.aload_n 0, 1) := by decide +kernel
theorem dL_pro_111 : decode cL_pro 111 = .ok (.invokestatic 47, 3) := by decide +kernel
theorem dL_pro_114 : decode cL_pro 114 = .ok (.iconst 1, 1) := by decide +kernel
theorem dL_pro_115 : decode cL_pro 115 = .ok (.isub, 1) := by decide +kernel
theorem dL_pro_116 : decode cL_pro 116 = .ok (.invokestatic 43, 3) := by decide +kernel
theorem dL_pro_119 : decode cL_pro 119 = .ok (.iadd, 1) := by decide +kernel
theorem dL_pro_120 : decode cL_pro 120 = .ok (.aload_n 0, 1) := by decide +kernel
theorem dL_pro_121 : decode cL_pro 121 = .ok (.invokestatic 47, 3) := by decide +kernel
theorem dL_pro_124 : decode cL_pro 124 = .ok (.irem, 1) := by decide +kernel
theorem dL_pro_125 : decode cL_pro 125 = .ok (.ireturn, 1) := by decide +kernel
theorem dL_pro_126 : decode cL_pro 126 = .ok (.iconst 1, 1) := by decide +kernel
theorem dL_pro_127 : decode cL_pro 127 = .ok (.iload_n 3, 1) := by decide +kernel
theorem dL_pro_128 : decode cL_pro 128 = .ok (.sipush 256, 3) := by decide +kernel
theorem dL_pro_131 : decode cL_pro 131 = .ok (.idiv, 1) := by decide +kernel
theorem dL_pro_132 : decode cL_pro 132 = .ok (.iconst 4, 1) := by decide +kernel
theorem dL_pro_133 : decode cL_pro 133 = .ok (.invokestatic 43, 3) := by decide +kernel
theorem dL_pro_136 : decode cL_pro 136 = .ok (.iadd, 1) := by decide +kernel
theorem dL_pro_137 : decode cL_pro 137 = .ok (.ireturn, 1) := by decide +kernel
theorem dL_pro_138 : decode cL_pro 138 = .ok (.aload_n 0, 1) := by decide +kernel
theorem dL_pro_139 : decode cL_pro 139 = .ok (.iload_n 1, 1) := by decide +kernel
theorem dL_pro_140 : decode cL_pro 140 = .ok (.iconst 3, 1) := by decide +kernel
theorem dL_pro_141 : decode cL_pro 141 = .ok (.invokestatic 54, 3) := by decide +kernel
theorem dL_pro_144 : decode cL_pro 144 = .ok (.iconst 2, 1) := by decide +kernel
theorem dL_pro_145 : decode cL_pro 145 = .ok (.if_icmp .ne 18, 3) := by decide +kernel
theorem dL_pro_148 : decode cL_pro 148 = .ok (.iconst 1, 1) := by decide +kernel
theorem dL_pro_149 : decode cL_pro 149 = .ok (.iload_n 3, 1) := by decide +kernel
theorem dL_pro_150 : decode cL_pro 150 = .ok (.sipush 1024, 3) := by decide +kernel
theorem dL_pro_153 : decode cL_pro 153 = .ok (.idiv, 1) := by decide +kernel
theorem dL_pro_154 : decode cL_pro 154 = .ok (.bipush 60, 2) := by decide +kernel
theorem dL_pro_156 : decode cL_pro 156 = .ok (.invokestatic 43, 3) := by decide +kernel
theorem dL_pro_159 : decode cL_pro 159 = .ok (.iadd, 1) := by decide +kernel
theorem dL_pro_160 : decode cL_pro 160 = .ok (.goto 16, 3) := by decide +kernel
theorem dL_pro_163 : decode cL_pro 163 = .ok (.iconst 1, 1) := by decide +kernel
theorem dL_pro_164 : decode cL_pro 164 = .ok (.iload_n 3, 1) := by decide +kernel
theorem dL_pro_165 : decode cL_pro 165 = .ok (.sipush 1024, 3) := by decide +kernel
theorem dL_pro_168 : decode cL_pro 168 = .ok (.idiv, 1) := by decide +kernel
theorem dL_pro_169 : decode cL_pro 169 = .ok (.sipush 700, 3) := by decide +kernel
theorem dL_pro_172 : decode cL_pro 172 = .ok (.invokestatic 43, 3) := by decide +kernel
theorem dL_pro_175 : decode cL_pro 175 = .ok (.iadd, 1) := by decide +kernel
theorem dL_pro_176 : decode cL_pro 176 = .ok (.ireturn, 1) := by decide +kernel
theorem dL_pro_177 : decode cL_pro 177 = .ok (.aload_n 0, 1) := by decide +kernel
theorem dL_pro_178 : decode cL_pro 178 = .ok (.invokestatic 51, 3) := by decide +kernel
theorem dL_pro_181 : decode cL_pro 181 = .ok (.iconst 1, 1) := by decide +kernel
theorem dL_pro_182 : decode cL_pro 182 = .ok (.if_icmp .le 26, 3) := by decide +kernel
theorem dL_pro_185 : decode cL_pro 185 = .ok (.iload_n 3, 1) := by decide +kernel
theorem dL_pro_186 : decode cL_pro 186 = .ok (.ldc 58, 2) := by decide +kernel
theorem dL_pro_188 : decode cL_pro 188 = .ok (.idiv, 1) := by decide +kernel
theorem dL_pro_189 : decode cL_pro 189 = .ok (.iconst 3, 1) := by decide +kernel
theorem dL_pro_190 : decode cL_pro 190 = .ok (.invokestatic 43, 3) := by decide +kernel
theorem dL_pro_193 : decode cL_pro 193 = .ok (.ifCond .ne 15, 3) := by decide +kernel
theorem dL_pro_196 : decode cL_pro 196 = .ok (.iload 4, 2) := by decide +kernel
theorem dL_pro_198 : decode cL_pro 198 = .ok (.iconst 1, 1) := by decide +kernel
theorem dL_pro_199 : decode cL_pro 199 = .ok (.iadd, 1) := by decide +kernel
theorem dL_pro_200 : decode cL_pro 200 = .ok (.aload_n 0, 1) := by decide +kernel
theorem dL_pro_201 : decode cL_pro 201 = .ok (.invokestatic 51, 3) := by decide +kernel
theorem dL_pro_204 : decode cL_pro 204 = .ok (.irem, 1) := by decide +kernel
theorem dL_pro_205 : decode cL_pro 205 = .ok (.goto 5, 3) := by decide +kernel
theorem dL_pro_208 : decode cL_pro 208 = .ok (.bipush (-2), 2) := by decide +kernel
theorem dL_pro_210 : decode cL_pro 210 = .ok (.ireturn, 1) := by decide +kernel
theorem dL_base_0 : decode cL_base 0 = .ok (.iload_n 2, 1) := by decide +kernel
theorem dL_base_1 : decode cL_base 1 = .ok (.ifCond .ne 12, 3) := by decide +kernel
theorem dL_base_4 : decode cL_base 4 = .ok (.iload_n 1, 1) := by decide +kernel
theorem dL_base_5 : decode cL_base 5 = .ok (.aload_n 0, 1) := by decide +kernel
theorem dL_base_6 : decode cL_base 6 = .ok (.invokestatic 51, 3) := by decide +kernel
theorem dL_base_9 : decode cL_base 9 = .ok (.irem, 1) := by decide +kernel
theorem dL_base_10 : decode cL_base 10 = .ok (.goto 40, 3) := by decide +kernel
theorem dL_base_13 : decode cL_base 13 = .ok (.iload_n 2, 1) := by decide +kernel
theorem dL_base_14 : decode cL_base 14 = .ok (.iconst 1, 1) := by decide +kernel
theorem dL_base_15 : decode cL_base 15 = .ok (.if_icmp .ne 19, 3) := by decide +kernel
theorem dL_base_18 : decode cL_base 18 = .ok (.iload_n 1, 1) := by decide +kernel
theorem dL_base_19 : decode cL_base 19 = .ok (.aload_n 0, 1) := by decide +kernel
theorem dL_base_20 : decode cL_base 20 = .ok (.invokestatic 51, 3) := by decide +kernel
theorem dL_base_23 : decode cL_base 23 = .ok (.idiv, 1) := by decide +kernel
theorem dL_base_24 : decode cL_base 24 = .ok (.aload_n 0, 1) := by decide +kernel
theorem dL_base_25 : decode cL_base 25 = .ok (.invokestatic 47, 3) := by decide +kernel
theorem dL_base_28 : decode cL_base 28 = .ok (.iconst 1, 1) := by decide +kernel
theorem dL_base_29 : decode cL_base 29 = .ok (.isub, 1) := by decide +kernel
theorem dL_base_30 : decode cL_base 30 = .ok (.irem, 1) := by decide +kernel
theorem dL_base_31 : decode cL_base 31 = .ok (.goto 19, 3) := by decide +kernel
theorem dL_base_34 : decode cL_base 34 = .ok (.iconst 1, 1) := by decide +kernel
theorem dL_base_35 : decode cL_base 35 = .ok (.aload_n 0, 1) := by decide +kernel
theorem dL_base_36 : decode cL_base 36 = .ok (.bipush 9, 2) := by decide +kernel
theorem dL_base_38 : decode cL_base 38 = .ok (.iload_n 1, 1) := by decide +kernel
theorem dL_base_39 : decode cL_base 39 = .ok (.iadd, 1) := by decide +kernel
theorem dL_base_40 : decode cL_base 40 = .ok (.invokestatic 37, 3) := by decide +kernel
theorem dL_base_43 : decode cL_base 43 = .ok (.sipush 900, 3) := by decide +kernel
theorem dL_base_46 : decode cL_base 46 = .ok (.invokestatic 43, 3) := by decide +kernel
theorem dL_base_49 : decode cL_base 49 = .ok (.iadd, 1) := by decide +kernel
theorem dL_base_50 : decode cL_base 50 = .ok (.ireturn, 1) := by decide +kernel
theorem dL_isBase_0 : decode cL_isBase 0 = .ok (.iload_n 1, 1) := by decide +kernel
theorem dL_isBase_1 : decode cL_isBase 1 = .ok (.aload_n 0, 1) := by decide +kernel
theorem dL_isBase_2 : decode cL_isBase 2 = .ok (.invokestatic 51, 3) := by decide +kernel
theorem dL_isBase_5 : decode cL_isBase 5 = .ok (.aload_n 0, 1) := by decide +kernel
theorem dL_isBase_6 : decode cL_isBase 6 = .ok (.invokestatic 47, 3) := by decide +kernel
theorem dL_isBase_9 : decode cL_isBase 9 = .ok (.iconst 1, 1) := by decide +kernel
theorem dL_isBase_10 : decode cL_isBase 10 = .ok (.isub, 1) := by decide +kernel
theorem dL_isBase_11 : decode cL_isBase 11 = .ok (.imul, 1) := by decide +kernel
theorem dL_isBase_12 : decode cL_isBase 12 = .ok (.if_icmp .ge 7, 3) := by decide +kernel
theorem dL_isBase_15 : decode cL_isBase 15 = .ok (.iconst 1, 1) := by decide +kernel
theorem dL_isBase_16 : decode cL_isBase 16 = .ok (.goto 4, 3) := by decide +kernel
theorem dL_isBase_19 : decode cL_isBase 19 = .ok (.iconst 0, 1) := by decide +kernel
theorem dL_isBase_20 : decode cL_isBase 20 = .ok (.ireturn, 1) := by decide +kernel
theorem dL_fare_0 : decode cL_fare 0 = .ok (.iconst 1, 1) := by decide +kernel
theorem dL_fare_1 : decode cL_fare 1 = .ok (.aload_n 0, 1) := by decide +kernel
theorem dL_fare_2 : decode cL_fare 2 = .ok (.bipush 13, 2) := by decide +kernel
theorem dL_fare_4 : decode cL_fare 4 = .ok (.iload_n 1, 1) := by decide +kernel
theorem dL_fare_5 : decode cL_fare 5 = .ok (.iadd, 1) := by decide +kernel
theorem dL_fare_6 : decode cL_fare 6 = .ok (.invokestatic 37, 3) := by decide +kernel
theorem dL_fare_9 : decode cL_fare 9 = .ok (.sipush 3000, 3) := by decide +kernel
theorem dL_fare_12 : decode cL_fare 12 = .ok (.invokestatic 43, 3) := by decide +kernel
theorem dL_fare_15 : decode cL_fare 15 = .ok (.iadd, 1) := by decide +kernel
theorem dL_fare_16 : decode cL_fare 16 = .ok (.ireturn, 1) := by decide +kernel
theorem dL_how_0 : decode cL_how 0 = .ok (.aload_n 0, 1) := by decide +kernel
theorem dL_how_1 : decode cL_how 1 = .ok (.bipush 13, 2) := by decide +kernel
theorem dL_how_3 : decode cL_how 3 = .ok (.iload_n 1, 1) := by decide +kernel
theorem dL_how_4 : decode cL_how 4 = .ok (.iadd, 1) := by decide +kernel
theorem dL_how_5 : decode cL_how 5 = .ok (.invokestatic 37, 3) := by decide +kernel
theorem dL_how_8 : decode cL_how 8 = .ok (.sipush 4096, 3) := by decide +kernel
theorem dL_how_11 : decode cL_how 11 = .ok (.idiv, 1) := by decide +kernel
theorem dL_how_12 : decode cL_how 12 = .ok (.iconst 2, 1) := by decide +kernel
theorem dL_how_13 : decode cL_how 13 = .ok (.invokestatic 43, 3) := by decide +kernel
theorem dL_how_16 : decode cL_how 16 = .ok (.ireturn, 1) := by decide +kernel
theorem dL_coupons_0 : decode cL_coupons 0 = .ok (.iconst 1, 1) := by decide +kernel
theorem dL_coupons_1 : decode cL_coupons 1 = .ok (.aload_n 0, 1) := by decide +kernel
theorem dL_coupons_2 : decode cL_coupons 2 = .ok (.bipush 13, 2) := by decide +kernel
theorem dL_coupons_4 : decode cL_coupons 4 = .ok (.iload_n 1, 1) := by decide +kernel
theorem dL_coupons_5 : decode cL_coupons 5 = .ok (.iadd, 1) := by decide +kernel
theorem dL_coupons_6 : decode cL_coupons 6 = .ok (.invokestatic 37, 3) := by decide +kernel
theorem dL_coupons_9 : decode cL_coupons 9 = .ok (.sipush 8192, 3) := by decide +kernel
theorem dL_coupons_12 : decode cL_coupons 12 = .ok (.idiv, 1) := by decide +kernel
theorem dL_coupons_13 : decode cL_coupons 13 = .ok (.iconst 5, 1) := by decide +kernel
theorem dL_coupons_14 : decode cL_coupons 14 = .ok (.invokestatic 43, 3) := by decide +kernel
theorem dL_coupons_17 : decode cL_coupons 17 = .ok (.iadd, 1) := by decide +kernel
theorem dL_coupons_18 : decode cL_coupons 18 = .ok (.ireturn, 1) := by decide +kernel
theorem dL_carrier_0 : decode cL_carrier 0 = .ok (.aload_n 0, 1) := by decide +kernel
theorem dL_carrier_1 : decode cL_carrier 1 = .ok (.bipush 16, 2) := by decide +kernel
theorem dL_carrier_3 : decode cL_carrier 3 = .ok (.iload_n 1, 1) := by decide +kernel
theorem dL_carrier_4 : decode cL_carrier 4 = .ok (.iadd, 1) := by decide +kernel
theorem dL_carrier_5 : decode cL_carrier 5 = .ok (.invokestatic 37, 3) := by decide +kernel
theorem dL_carrier_8 : decode cL_carrier 8 = .ok (.iconst 2, 1) := by decide +kernel
theorem dL_carrier_9 : decode cL_carrier 9 = .ok (.iload_n 2, 1) := by decide +kernel
theorem dL_carrier_10 : decode cL_carrier 10 = .ok (.imul, 1) := by decide +kernel
theorem dL_carrier_11 : decode cL_carrier 11 = .ok (.ishr, 1) := by decide +kernel
theorem dL_carrier_12 : decode cL_carrier 12 = .ok (.aload_n 0, 1) := by decide +kernel
theorem dL_carrier_13 : decode cL_carrier 13 = .ok (.invokestatic 51, 3) := by decide +kernel
theorem dL_carrier_16 : decode cL_carrier 16 = .ok (.invokestatic 43, 3) := by decide +kernel
theorem dL_carrier_19 : decode cL_carrier 19 = .ok (.ireturn, 1) := by decide +kernel
theorem dL_at_0 : decode cL_at 0 = .ok (.aload_n 0, 1) := by decide +kernel
theorem dL_at_1 : decode cL_at 1 = .ok (.bipush 16, 2) := by decide +kernel
theorem dL_at_3 : decode cL_at 3 = .ok (.iload_n 1, 1) := by decide +kernel
theorem dL_at_4 : decode cL_at 4 = .ok (.iadd, 1) := by decide +kernel
theorem dL_at_5 : decode cL_at 5 = .ok (.invokestatic 37, 3) := by decide +kernel
theorem dL_at_8 : decode cL_at 8 = .ok (.bipush 10, 2) := by decide +kernel
theorem dL_at_10 : decode cL_at 10 = .ok (.ishr, 1) := by decide +kernel
theorem dL_at_11 : decode cL_at 11 = .ok (.aload_n 0, 1) := by decide +kernel
theorem dL_at_12 : decode cL_at 12 = .ok (.invokestatic 47, 3) := by decide +kernel
theorem dL_at_15 : decode cL_at 15 = .ok (.invokestatic 43, 3) := by decide +kernel
theorem dL_at_18 : decode cL_at 18 = .ok (.istore_n 3, 1) := by decide +kernel
theorem dL_at_19 : decode cL_at 19 = .ok (.iconst 0, 1) := by decide +kernel
theorem dL_at_20 : decode cL_at 20 = .ok (.istore 4, 2) := by decide +kernel
theorem dL_at_22 : decode cL_at 22 = .ok (.iload 4, 2) := by decide +kernel
theorem dL_at_24 : decode cL_at 24 = .ok (.iload_n 2, 1) := by decide +kernel
theorem dL_at_25 : decode cL_at 25 = .ok (.if_icmp .ge 44, 3) := by decide +kernel
theorem dL_at_28 : decode cL_at 28 = .ok (.iload_n 3, 1) := by decide +kernel
theorem dL_at_29 : decode cL_at 29 = .ok (.iconst 1, 1) := by decide +kernel
theorem dL_at_30 : decode cL_at 30 = .ok (.iadd, 1) := by decide +kernel
theorem dL_at_31 : decode cL_at 31 = .ok (.aload_n 0, 1) := by decide +kernel
theorem dL_at_32 : decode cL_at 32 = .ok (.bipush 16, 2) := by decide +kernel
theorem dL_at_34 : decode cL_at 34 = .ok (.iload_n 1, 1) := by decide +kernel
theorem dL_at_35 : decode cL_at 35 = .ok (.iadd, 1) := by decide +kernel
theorem dL_at_36 : decode cL_at 36 = .ok (.invokestatic 37, 3) := by decide +kernel
theorem dL_at_39 : decode cL_at 39 = .ok (.bipush 12, 2) := by decide +kernel
theorem dL_at_41 : decode cL_at 41 = .ok (.iconst 3, 1) := by decide +kernel
theorem dL_at_42 : decode cL_at 42 = .ok (.iload 4, 2) := by decide +kernel
theorem dL_at_44 : decode cL_at 44 = .ok (.imul, 1) := by decide +kernel
theorem dL_at_45 : decode cL_at 45 = .ok (.iadd, 1) := by decide +kernel
theorem dL_at_46 : decode cL_at 46 = .ok (.ishr, 1) := by decide +kernel
theorem dL_at_47 : decode cL_at 47 = .ok (.aload_n 0, 1) := by decide +kernel
theorem dL_at_48 : decode cL_at 48 = .ok (.invokestatic 47, 3) := by decide +kernel
theorem dL_at_51 : decode cL_at 51 = .ok (.iconst 1, 1) := by decide +kernel
theorem dL_at_52 : decode cL_at 52 = .ok (.isub, 1) := by decide +kernel
theorem dL_at_53 : decode cL_at 53 = .ok (.invokestatic 43, 3) := by decide +kernel
theorem dL_at_56 : decode cL_at 56 = .ok (.iadd, 1) := by decide +kernel
theorem dL_at_57 : decode cL_at 57 = .ok (.aload_n 0, 1) := by decide +kernel
theorem dL_at_58 : decode cL_at 58 = .ok (.invokestatic 47, 3) := by decide +kernel
theorem dL_at_61 : decode cL_at 61 = .ok (.irem, 1) := by decide +kernel
theorem dL_at_62 : decode cL_at 62 = .ok (.istore_n 3, 1) := by decide +kernel
theorem dL_at_63 : decode cL_at 63 = .ok (.iinc 4 1, 3) := by decide +kernel
theorem dL_at_66 : decode cL_at 66 = .ok (.goto (-44), 3) := by decide +kernel
theorem dL_at_69 : decode cL_at 69 = .ok (.iload_n 3, 1) := by decide +kernel
theorem dL_at_70 : decode cL_at 70 = .ok (.ireturn, 1) := by decide +kernel
theorem dL_place_0 : decode cL_place 0 = .ok (.new 14, 3) := by decide +kernel
theorem dL_place_3 : decode cL_place 3 = .ok (.dup, 1) := by decide +kernel
theorem dL_place_4 : decode cL_place 4 = .ok (.invokespecial 16, 3) := by decide +kernel
theorem dL_place_7 : decode cL_place 7 = .ok (.ldc 59, 2) := by decide +kernel
theorem dL_place_9 : decode cL_place 9 = .ok (.invokevirtual 17, 3) := by decide +kernel
theorem dL_place_12 : decode cL_place 12 = .ok (.bipush 97, 2) := by decide +kernel
theorem dL_place_14 : decode cL_place 14 = .ok (.iload_n 0, 1) := by decide +kernel
theorem dL_place_15 : decode cL_place 15 = .ok (.iadd, 1) := by decide +kernel
theorem dL_place_16 : decode cL_place 16 = .ok (.i2c, 1) := by decide +kernel
theorem dL_place_17 : decode cL_place 17 = .ok (.invokevirtual 61, 3) := by decide +kernel
theorem dL_place_20 : decode cL_place 20 = .ok (.invokevirtual 23, 3) := by decide +kernel
theorem dL_place_23 : decode cL_place 23 = .ok (.areturn, 1) := by decide +kernel
theorem dL_company_0 : decode cL_company 0 = .ok (.new 14, 3) := by decide +kernel
theorem dL_company_3 : decode cL_company 3 = .ok (.dup, 1) := by decide +kernel
theorem dL_company_4 : decode cL_company 4 = .ok (.invokespecial 16, 3) := by decide +kernel
theorem dL_company_7 : decode cL_company 7 = .ok (.ldc 64, 2) := by decide +kernel
theorem dL_company_9 : decode cL_company 9 = .ok (.invokevirtual 17, 3) := by decide +kernel
theorem dL_company_12 : decode cL_company 12 = .ok (.bipush 97, 2) := by decide +kernel
theorem dL_company_14 : decode cL_company 14 = .ok (.iload_n 0, 1) := by decide +kernel
theorem dL_company_15 : decode cL_company 15 = .ok (.iadd, 1) := by decide +kernel
theorem dL_company_16 : decode cL_company 16 = .ok (.i2c, 1) := by decide +kernel
theorem dL_company_17 : decode cL_company 17 = .ok (.invokevirtual 61, 3) := by decide +kernel
theorem dL_company_20 : decode cL_company 20 = .ok (.invokevirtual 23, 3) := by decide +kernel
theorem dL_company_23 : decode cL_company 23 = .ok (.areturn, 1) := by decide +kernel
theorem dL_text_0 : decode cL_text 0 = .ok (.new 14, 3) := by decide +kernel
theorem dL_text_3 : decode cL_text 3 = .ok (.dup, 1) := by decide +kernel
theorem dL_text_4 : decode cL_text 4 = .ok (.invokespecial 16, 3) := by decide +kernel
theorem dL_text_7 : decode cL_text 7 = .ok (.ldc 66, 2) := by decide +kernel
theorem dL_text_9 : decode cL_text 9 = .ok (.invokevirtual 17, 3) := by decide +kernel
theorem dL_text_12 : decode cL_text 12 = .ok (.aload_n 0, 1) := by decide +kernel
theorem dL_text_13 : decode cL_text 13 = .ok (.invokestatic 68, 3) := by decide +kernel
theorem dL_text_16 : decode cL_text 16 = .ok (.invokevirtual 71, 3) := by decide +kernel
theorem dL_text_19 : decode cL_text 19 = .ok (.ldc 74, 2) := by decide +kernel
theorem dL_text_21 : decode cL_text 21 = .ok (.invokevirtual 17, 3) := by decide +kernel
theorem dL_text_24 : decode cL_text 24 = .ok (.invokevirtual 23, 3) := by decide +kernel
theorem dL_text_27 : decode cL_text 27 = .ok (.astore_n 1, 1) := by decide +kernel
theorem dL_text_28 : decode cL_text 28 = .ok (.iconst 0, 1) := by decide +kernel
theorem dL_text_29 : decode cL_text 29 = .ok (.istore_n 2, 1) := by decide +kernel
theorem dL_text_30 : decode cL_text 30 = .ok (.iload_n 2, 1) := by decide +kernel
theorem dL_text_31 : decode cL_text 31 = .ok (.aload_n 0, 1) := by decide +kernel
theorem dL_text_32 : decode cL_text 32 = .ok (.invokestatic 47, 3) := by decide +kernel
theorem dL_text_35 : decode cL_text 35 = .ok (.if_icmp .ge 41, 3) := by decide +kernel
theorem dL_text_38 : decode cL_text 38 = .ok (.new 14, 3) := by decide +kernel
theorem dL_text_41 : decode cL_text 41 = .ok (.dup, 1) := by decide +kernel
theorem dL_text_42 : decode cL_text 42 = .ok (.invokespecial 16, 3) := by decide +kernel
theorem dL_text_45 : decode cL_text 45 = .ok (.aload_n 1, 1) := by decide +kernel
theorem dL_text_46 : decode cL_text 46 = .ok (.invokevirtual 17, 3) := by decide +kernel
theorem dL_text_49 : decode cL_text 49 = .ok (.ldc 76, 2) := by decide +kernel
theorem dL_text_51 : decode cL_text 51 = .ok (.invokevirtual 17, 3) := by decide +kernel
theorem dL_text_54 : decode cL_text 54 = .ok (.iload_n 2, 1) := by decide +kernel
theorem dL_text_55 : decode cL_text 55 = .ok (.invokestatic 78, 3) := by decide +kernel
theorem dL_text_58 : decode cL_text 58 = .ok (.invokevirtual 17, 3) := by decide +kernel
theorem dL_text_61 : decode cL_text 61 = .ok (.ldc 74, 2) := by decide +kernel
theorem dL_text_63 : decode cL_text 63 = .ok (.invokevirtual 17, 3) := by decide +kernel
theorem dL_text_66 : decode cL_text 66 = .ok (.invokevirtual 23, 3) := by decide +kernel
theorem dL_text_69 : decode cL_text 69 = .ok (.astore_n 1, 1) := by decide +kernel
theorem dL_text_70 : decode cL_text 70 = .ok (.iinc 2 1, 3) := by decide +kernel
theorem dL_text_73 : decode cL_text 73 = .ok (.goto (-43), 3) := by decide +kernel
theorem dL_text_76 : decode cL_text 76 = .ok (.iconst 0, 1) := by decide +kernel
theorem dL_text_77 : decode cL_text 77 = .ok (.istore_n 2, 1) := by decide +kernel
theorem dL_text_78 : decode cL_text 78 = .ok (.iload_n 2, 1) := by decide +kernel
theorem dL_text_79 : decode cL_text 79 = .ok (.aload_n 0, 1) := by decide +kernel
theorem dL_text_80 : decode cL_text 80 = .ok (.invokestatic 51, 3) := by decide +kernel
theorem dL_text_83 : decode cL_text 83 = .ok (.if_icmp .ge 41, 3) := by decide +kernel
theorem dL_text_86 : decode cL_text 86 = .ok (.new 14, 3) := by decide +kernel
theorem dL_text_89 : decode cL_text 89 = .ok (.dup, 1) := by decide +kernel
theorem dL_text_90 : decode cL_text 90 = .ok (.invokespecial 16, 3) := by decide +kernel
theorem dL_text_93 : decode cL_text 93 = .ok (.aload_n 1, 1) := by decide +kernel
theorem dL_text_94 : decode cL_text 94 = .ok (.invokevirtual 17, 3) := by decide +kernel
theorem dL_text_97 : decode cL_text 97 = .ok (.ldc 82, 2) := by decide +kernel
theorem dL_text_99 : decode cL_text 99 = .ok (.invokevirtual 17, 3) := by decide +kernel
theorem dL_text_102 : decode cL_text 102 = .ok (.iload_n 2, 1) := by decide +kernel
theorem dL_text_103 : decode cL_text 103 = .ok (.invokestatic 84, 3) := by decide +kernel
theorem dL_text_106 : decode cL_text 106 = .ok (.invokevirtual 17, 3) := by decide +kernel
theorem dL_text_109 : decode cL_text 109 = .ok (.ldc 74, 2) := by decide +kernel
theorem dL_text_111 : decode cL_text 111 = .ok (.invokevirtual 17, 3) := by decide +kernel
theorem dL_text_114 : decode cL_text 114 = .ok (.invokevirtual 23, 3) := by decide +kernel
theorem dL_text_117 : decode cL_text 117 = .ok (.astore_n 1, 1) := by decide +kernel
theorem dL_text_118 : decode cL_text 118 = .ok (.iinc 2 1, 3) := by decide +kernel
theorem dL_text_121 : decode cL_text 121 = .ok (.goto (-43), 3) := by decide +kernel
theorem dL_text_124 : decode cL_text 124 = .ok (.iconst 0, 1) := by decide +kernel
theorem dL_text_125 : decode cL_text 125 = .ok (.istore_n 2, 1) := by decide +kernel
theorem dL_text_126 : decode cL_text 126 = .ok (.iload_n 2, 1) := by decide +kernel
theorem dL_text_127 : decode cL_text 127 = .ok (.iconst 1, 1) := by decide +kernel
theorem dL_text_128 : decode cL_text 128 = .ok (.iadd, 1) := by decide +kernel
theorem dL_text_129 : decode cL_text 129 = .ok (.aload_n 0, 1) := by decide +kernel
theorem dL_text_130 : decode cL_text 130 = .ok (.invokestatic 47, 3) := by decide +kernel
theorem dL_text_133 : decode cL_text 133 = .ok (.if_icmp .ge 68, 3) := by decide +kernel
theorem dL_text_136 : decode cL_text 136 = .ok (.new 14, 3) := by decide +kernel
theorem dL_text_139 : decode cL_text 139 = .ok (.dup, 1) := by decide +kernel
theorem dL_text_140 : decode cL_text 140 = .ok (.invokespecial 16, 3) := by decide +kernel
theorem dL_text_143 : decode cL_text 143 = .ok (.aload_n 1, 1) := by decide +kernel
theorem dL_text_144 : decode cL_text 144 = .ok (.invokevirtual 17, 3) := by decide +kernel
theorem dL_text_147 : decode cL_text 147 = .ok (.ldc 87, 2) := by decide +kernel
theorem dL_text_149 : decode cL_text 149 = .ok (.invokevirtual 17, 3) := by decide +kernel
theorem dL_text_152 : decode cL_text 152 = .ok (.iload_n 2, 1) := by decide +kernel
theorem dL_text_153 : decode cL_text 153 = .ok (.invokestatic 78, 3) := by decide +kernel
theorem dL_text_156 : decode cL_text 156 = .ok (.invokevirtual 17, 3) := by decide +kernel
theorem dL_text_159 : decode cL_text 159 = .ok (.ldc 21, 2) := by decide +kernel
theorem dL_text_161 : decode cL_text 161 = .ok (.invokevirtual 17, 3) := by decide +kernel
theorem dL_text_164 : decode cL_text 164 = .ok (.iload_n 2, 1) := by decide +kernel
theorem dL_text_165 : decode cL_text 165 = .ok (.iconst 1, 1) := by decide +kernel
theorem dL_text_166 : decode cL_text 166 = .ok (.iadd, 1) := by decide +kernel
theorem dL_text_167 : decode cL_text 167 = .ok (.invokestatic 78, 3) := by decide +kernel
theorem dL_text_170 : decode cL_text 170 = .ok (.invokevirtual 17, 3) := by decide +kernel
theorem dL_text_173 : decode cL_text 173 = .ok (.ldc 21, 2) := by decide +kernel
theorem dL_text_175 : decode cL_text 175 = .ok (.invokevirtual 17, 3) := by decide +kernel
theorem dL_text_178 : decode cL_text 178 = .ok (.aload_n 0, 1) := by decide +kernel
theorem dL_text_179 : decode cL_text 179 = .ok (.iload_n 2, 1) := by decide +kernel
theorem dL_text_180 : decode cL_text 180 = .ok (.invokestatic 89, 3) := by decide +kernel
theorem dL_text_183 : decode cL_text 183 = .ok (.invokevirtual 71, 3) := by decide +kernel
theorem dL_text_186 : decode cL_text 186 = .ok (.ldc 74, 2) := by decide +kernel
theorem dL_text_188 : decode cL_text 188 = .ok (.invokevirtual 17, 3) := by decide +kernel
theorem dL_text_191 : decode cL_text 191 = .ok (.invokevirtual 23, 3) := by decide +kernel
theorem dL_text_194 : decode cL_text 194 = .ok (.astore_n 1, 1) := by decide +kernel
theorem dL_text_195 : decode cL_text 195 = .ok (.iinc 2 1, 3) := by decide +kernel
theorem dL_text_198 : decode cL_text 198 = .ok (.goto (-72), 3) := by decide +kernel
theorem dL_text_201 : decode cL_text 201 = .ok (.aload_n 0, 1) := by decide +kernel
theorem dL_text_202 : decode cL_text 202 = .ok (.invokestatic 92, 3) := by decide +kernel
theorem dL_text_205 : decode cL_text 205 = .ok (.ifCond .le 64, 3) := by decide +kernel
theorem dL_text_208 : decode cL_text 208 = .ok (.new 14, 3) := by decide +kernel
theorem dL_text_211 : decode cL_text 211 = .ok (.dup, 1) := by decide +kernel
theorem dL_text_212 : decode cL_text 212 = .ok (.invokespecial 16, 3) := by decide +kernel
theorem dL_text_215 : decode cL_text 215 = .ok (.aload_n 1, 1) := by decide +kernel
theorem dL_text_216 : decode cL_text 216 = .ok (.invokevirtual 17, 3) := by decide +kernel
theorem dL_text_219 : decode cL_text 219 = .ok (.ldc 87, 2) := by decide +kernel
theorem dL_text_221 : decode cL_text 221 = .ok (.invokevirtual 17, 3) := by decide +kernel
theorem dL_text_224 : decode cL_text 224 = .ok (.aload_n 0, 1) := by decide +kernel
theorem dL_text_225 : decode cL_text 225 = .ok (.invokestatic 47, 3) := by decide +kernel
theorem dL_text_228 : decode cL_text 228 = .ok (.iconst 1, 1) := by decide +kernel
theorem dL_text_229 : decode cL_text 229 = .ok (.isub, 1) := by decide +kernel
theorem dL_text_230 : decode cL_text 230 = .ok (.invokestatic 78, 3) := by decide +kernel
theorem dL_text_233 : decode cL_text 233 = .ok (.invokevirtual 17, 3) := by decide +kernel
theorem dL_text_236 : decode cL_text 236 = .ok (.ldc 21, 2) := by decide +kernel
theorem dL_text_238 : decode cL_text 238 = .ok (.invokevirtual 17, 3) := by decide +kernel
theorem dL_text_241 : decode cL_text 241 = .ok (.iconst 0, 1) := by decide +kernel
theorem dL_text_242 : decode cL_text 242 = .ok (.invokestatic 78, 3) := by decide +kernel
theorem dL_text_245 : decode cL_text 245 = .ok (.invokevirtual 17, 3) := by decide +kernel
theorem dL_text_248 : decode cL_text 248 = .ok (.ldc 21, 2) := by decide +kernel
theorem dL_text_250 : decode cL_text 250 = .ok (.invokevirtual 17, 3) := by decide +kernel
theorem dL_text_253 : decode cL_text 253 = .ok (.aload_n 0, 1) := by decide +kernel
theorem dL_text_254 : decode cL_text 254 = .ok (.invokestatic 92, 3) := by decide +kernel
theorem dL_text_257 : decode cL_text 257 = .ok (.invokevirtual 71, 3) := by decide +kernel
theorem dL_text_260 : decode cL_text 260 = .ok (.ldc 74, 2) := by decide +kernel
theorem dL_text_262 : decode cL_text 262 = .ok (.invokevirtual 17, 3) := by decide +kernel
theorem dL_text_265 : decode cL_text 265 = .ok (.invokevirtual 23, 3) := by decide +kernel
theorem dL_text_268 : decode cL_text 268 = .ok (.astore_n 1, 1) := by decide +kernel
theorem dL_text_269 : decode cL_text 269 = .ok (.iconst 0, 1) := by decide +kernel
theorem dL_text_270 : decode cL_text 270 = .ok (.istore_n 2, 1) := by decide +kernel
theorem dL_text_271 : decode cL_text 271 = .ok (.iload_n 2, 1) := by decide +kernel
theorem dL_text_272 : decode cL_text 272 = .ok (.aload_n 0, 1) := by decide +kernel
theorem dL_text_273 : decode cL_text 273 = .ok (.invokestatic 95, 3) := by decide +kernel
theorem dL_text_276 : decode cL_text 276 = .ok (.if_icmp .ge 55, 3) := by decide +kernel
theorem dL_text_279 : decode cL_text 279 = .ok (.new 14, 3) := by decide +kernel
theorem dL_text_282 : decode cL_text 282 = .ok (.dup, 1) := by decide +kernel
theorem dL_text_283 : decode cL_text 283 = .ok (.invokespecial 16, 3) := by decide +kernel
theorem dL_text_286 : decode cL_text 286 = .ok (.aload_n 1, 1) := by decide +kernel
theorem dL_text_287 : decode cL_text 287 = .ok (.invokevirtual 17, 3) := by decide +kernel
theorem dL_text_290 : decode cL_text 290 = .ok (.ldc 98, 2) := by decide +kernel
theorem dL_text_292 : decode cL_text 292 = .ok (.invokevirtual 17, 3) := by decide +kernel
theorem dL_text_295 : decode cL_text 295 = .ok (.aload_n 0, 1) := by decide +kernel
theorem dL_text_296 : decode cL_text 296 = .ok (.iload_n 2, 1) := by decide +kernel
theorem dL_text_297 : decode cL_text 297 = .ok (.invokestatic 100, 3) := by decide +kernel
theorem dL_text_300 : decode cL_text 300 = .ok (.invokevirtual 71, 3) := by decide +kernel
theorem dL_text_303 : decode cL_text 303 = .ok (.ldc 21, 2) := by decide +kernel
theorem dL_text_305 : decode cL_text 305 = .ok (.invokevirtual 17, 3) := by decide +kernel
theorem dL_text_308 : decode cL_text 308 = .ok (.aload_n 0, 1) := by decide +kernel
theorem dL_text_309 : decode cL_text 309 = .ok (.iload_n 2, 1) := by decide +kernel
theorem dL_text_310 : decode cL_text 310 = .ok (.invokestatic 103, 3) := by decide +kernel
theorem dL_text_313 : decode cL_text 313 = .ok (.invokevirtual 71, 3) := by decide +kernel
theorem dL_text_316 : decode cL_text 316 = .ok (.ldc 74, 2) := by decide +kernel
theorem dL_text_318 : decode cL_text 318 = .ok (.invokevirtual 17, 3) := by decide +kernel
theorem dL_text_321 : decode cL_text 321 = .ok (.invokevirtual 23, 3) := by decide +kernel
theorem dL_text_324 : decode cL_text 324 = .ok (.astore_n 1, 1) := by decide +kernel
theorem dL_text_325 : decode cL_text 325 = .ok (.iinc 2 1, 3) := by decide +kernel
theorem dL_text_328 : decode cL_text 328 = .ok (.goto (-57), 3) := by decide +kernel
theorem dL_text_331 : decode cL_text 331 = .ok (.iconst 0, 1) := by decide +kernel
theorem dL_text_332 : decode cL_text 332 = .ok (.istore_n 2, 1) := by decide +kernel
theorem dL_text_333 : decode cL_text 333 = .ok (.iload_n 2, 1) := by decide +kernel
theorem dL_text_334 : decode cL_text 334 = .ok (.aload_n 0, 1) := by decide +kernel
theorem dL_text_335 : decode cL_text 335 = .ok (.invokestatic 106, 3) := by decide +kernel
theorem dL_text_338 : decode cL_text 338 = .ok (.if_icmp .ge 185, 3) := by decide +kernel
theorem dL_text_341 : decode cL_text 341 = .ok (.new 14, 3) := by decide +kernel
theorem dL_text_344 : decode cL_text 344 = .ok (.dup, 1) := by decide +kernel
theorem dL_text_345 : decode cL_text 345 = .ok (.invokespecial 16, 3) := by decide +kernel
theorem dL_text_348 : decode cL_text 348 = .ok (.aload_n 1, 1) := by decide +kernel
theorem dL_text_349 : decode cL_text 349 = .ok (.invokevirtual 17, 3) := by decide +kernel
theorem dL_text_352 : decode cL_text 352 = .ok (.ldc 109, 2) := by decide +kernel
theorem dL_text_354 : decode cL_text 354 = .ok (.invokevirtual 17, 3) := by decide +kernel
theorem dL_text_357 : decode cL_text 357 = .ok (.aload_n 0, 1) := by decide +kernel
theorem dL_text_358 : decode cL_text 358 = .ok (.iload_n 2, 1) := by decide +kernel
theorem dL_text_359 : decode cL_text 359 = .ok (.iconst 0, 1) := by decide +kernel
theorem dL_text_360 : decode cL_text 360 = .ok (.invokestatic 54, 3) := by decide +kernel
theorem dL_text_363 : decode cL_text 363 = .ok (.invokestatic 84, 3) := by decide +kernel
theorem dL_text_366 : decode cL_text 366 = .ok (.invokevirtual 17, 3) := by decide +kernel
theorem dL_text_369 : decode cL_text 369 = .ok (.aload_n 0, 1) := by decide +kernel
theorem dL_text_370 : decode cL_text 370 = .ok (.iload_n 2, 1) := by decide +kernel
theorem dL_text_371 : decode cL_text 371 = .ok (.iconst 1, 1) := by decide +kernel
theorem dL_text_372 : decode cL_text 372 = .ok (.invokestatic 54, 3) := by decide +kernel
theorem dL_text_375 : decode cL_text 375 = .ok (.ifCond .ge 8, 3) := by decide +kernel
theorem dL_text_378 : decode cL_text 378 = .ok (.ldc 111, 2) := by decide +kernel
theorem dL_text_380 : decode cL_text 380 = .ok (.goto 52, 3) := by decide +kernel
theorem dL_text_383 : decode cL_text 383 = .ok (.new 14, 3) := by decide +kernel
theorem dL_text_386 : decode cL_text 386 = .ok (.dup, 1) := by decide +kernel
theorem dL_text_387 : decode cL_text 387 = .ok (.invokespecial 16, 3) := by decide +kernel
theorem dL_text_390 : decode cL_text 390 = .ok (.ldc 21, 2) := by decide +kernel
theorem dL_text_392 : decode cL_text 392 = .ok (.invokevirtual 17, 3) := by decide +kernel
theorem dL_text_395 : decode cL_text 395 = .ok (.aload_n 0, 1) := by decide +kernel
theorem dL_text_396 : decode cL_text 396 = .ok (.iload_n 2, 1) := by decide +kernel
theorem dL_text_397 : decode cL_text 397 = .ok (.iconst 1, 1) := by decide +kernel
theorem dL_text_398 : decode cL_text 398 = .ok (.invokestatic 54, 3) := by decide +kernel
theorem dL_text_401 : decode cL_text 401 = .ok (.invokestatic 78, 3) := by decide +kernel
theorem dL_text_404 : decode cL_text 404 = .ok (.invokevirtual 17, 3) := by decide +kernel
theorem dL_text_407 : decode cL_text 407 = .ok (.ldc 21, 2) := by decide +kernel
theorem dL_text_409 : decode cL_text 409 = .ok (.invokevirtual 17, 3) := by decide +kernel
theorem dL_text_412 : decode cL_text 412 = .ok (.aload_n 0, 1) := by decide +kernel
theorem dL_text_413 : decode cL_text 413 = .ok (.iload_n 2, 1) := by decide +kernel
theorem dL_text_414 : decode cL_text 414 = .ok (.iconst 2, 1) := by decide +kernel
theorem dL_text_415 : decode cL_text 415 = .ok (.invokestatic 54, 3) := by decide +kernel
theorem dL_text_418 : decode cL_text 418 = .ok (.invokestatic 78, 3) := by decide +kernel
theorem dL_text_421 : decode cL_text 421 = .ok (.invokevirtual 17, 3) := by decide +kernel
theorem dL_text_424 : decode cL_text 424 = .ok (.ldc 21, 2) := by decide +kernel
theorem dL_text_426 : decode cL_text 426 = .ok (.invokevirtual 17, 3) := by decide +kernel
theorem dL_text_429 : decode cL_text 429 = .ok (.invokevirtual 23, 3) := by decide +kernel
theorem dL_text_432 : decode cL_text 432 = .ok (.invokevirtual 17, 3) := by decide +kernel
theorem dL_text_435 : decode cL_text 435 = .ok (.getstatic 113, 3) := by decide +kernel
theorem dL_text_438 : decode cL_text 438 = .ok (.aload_n 0, 1) := by decide +kernel
theorem dL_text_439 : decode cL_text 439 = .ok (.iload_n 2, 1) := by decide +kernel
theorem dL_text_440 : decode cL_text 440 = .ok (.iconst 3, 1) := by decide +kernel
theorem dL_text_441 : decode cL_text 441 = .ok (.invokestatic 54, 3) := by decide +kernel
theorem dL_text_444 : decode cL_text 444 = .ok (.iconst 1, 1) := by decide +kernel
theorem dL_text_445 : decode cL_text 445 = .ok (.isub, 1) := by decide +kernel
theorem dL_text_446 : decode cL_text 446 = .ok (.aaload, 1) := by decide +kernel
theorem dL_text_447 : decode cL_text 447 = .ok (.invokevirtual 17, 3) := by decide +kernel
theorem dL_text_450 : decode cL_text 450 = .ok (.ldc 21, 2) := by decide +kernel
theorem dL_text_452 : decode cL_text 452 = .ok (.invokevirtual 17, 3) := by decide +kernel
theorem dL_text_455 : decode cL_text 455 = .ok (.aload_n 0, 1) := by decide +kernel
theorem dL_text_456 : decode cL_text 456 = .ok (.iload_n 2, 1) := by decide +kernel
theorem dL_text_457 : decode cL_text 457 = .ok (.iconst 4, 1) := by decide +kernel
theorem dL_text_458 : decode cL_text 458 = .ok (.invokestatic 54, 3) := by decide +kernel
theorem dL_text_461 : decode cL_text 461 = .ok (.invokevirtual 71, 3) := by decide +kernel
theorem dL_text_464 : decode cL_text 464 = .ok (.aload_n 0, 1) := by decide +kernel
theorem dL_text_465 : decode cL_text 465 = .ok (.iload_n 2, 1) := by decide +kernel
theorem dL_text_466 : decode cL_text 466 = .ok (.iconst 5, 1) := by decide +kernel
theorem dL_text_467 : decode cL_text 467 = .ok (.invokestatic 54, 3) := by decide +kernel
theorem dL_text_470 : decode cL_text 470 = .ok (.ifCond .ge 8, 3) := by decide +kernel
theorem dL_text_473 : decode cL_text 473 = .ok (.ldc 117, 2) := by decide +kernel
theorem dL_text_475 : decode cL_text 475 = .ok (.goto 30, 3) := by decide +kernel
theorem dL_text_478 : decode cL_text 478 = .ok (.new 14, 3) := by decide +kernel
theorem dL_text_481 : decode cL_text 481 = .ok (.dup, 1) := by decide +kernel
theorem dL_text_482 : decode cL_text 482 = .ok (.invokespecial 16, 3) := by decide +kernel
theorem dL_text_485 : decode cL_text 485 = .ok (.ldc 119, 2) := by decide +kernel
theorem dL_text_487 : decode cL_text 487 = .ok (.invokevirtual 17, 3) := by decide +kernel
theorem dL_text_490 : decode cL_text 490 = .ok (.aload_n 0, 1) := by decide +kernel
theorem dL_text_491 : decode cL_text 491 = .ok (.iload_n 2, 1) := by decide +kernel
theorem dL_text_492 : decode cL_text 492 = .ok (.iconst 5, 1) := by decide +kernel
theorem dL_text_493 : decode cL_text 493 = .ok (.invokestatic 54, 3) := by decide +kernel
theorem dL_text_496 : decode cL_text 496 = .ok (.invokestatic 84, 3) := by decide +kernel
theorem dL_text_499 : decode cL_text 499 = .ok (.invokevirtual 17, 3) := by decide +kernel
theorem dL_text_502 : decode cL_text 502 = .ok (.invokevirtual 23, 3) := by decide +kernel
theorem dL_text_505 : decode cL_text 505 = .ok (.invokevirtual 17, 3) := by decide +kernel
theorem dL_text_508 : decode cL_text 508 = .ok (.ldc 74, 2) := by decide +kernel
theorem dL_text_510 : decode cL_text 510 = .ok (.invokevirtual 17, 3) := by decide +kernel
theorem dL_text_513 : decode cL_text 513 = .ok (.invokevirtual 23, 3) := by decide +kernel
theorem dL_text_516 : decode cL_text 516 = .ok (.astore_n 1, 1) := by decide +kernel
theorem dL_text_517 : decode cL_text 517 = .ok (.iinc 2 1, 3) := by decide +kernel
theorem dL_text_520 : decode cL_text 520 = .ok (.goto (-187), 3) := by decide +kernel
theorem dL_text_523 : decode cL_text 523 = .ok (.iconst 0, 1) := by decide +kernel
theorem dL_text_524 : decode cL_text 524 = .ok (.istore_n 2, 1) := by decide +kernel
theorem dL_text_525 : decode cL_text 525 = .ok (.iload_n 2, 1) := by decide +kernel
theorem dL_text_526 : decode cL_text 526 = .ok (.aload_n 0, 1) := by decide +kernel
theorem dL_text_527 : decode cL_text 527 = .ok (.invokestatic 121, 3) := by decide +kernel
theorem dL_text_530 : decode cL_text 530 = .ok (.if_icmp .ge 104, 3) := by decide +kernel
theorem dL_text_533 : decode cL_text 533 = .ok (.aload_n 0, 1) := by decide +kernel
theorem dL_text_534 : decode cL_text 534 = .ok (.iload_n 2, 1) := by decide +kernel
theorem dL_text_535 : decode cL_text 535 = .ok (.invokestatic 124, 3) := by decide +kernel
theorem dL_text_538 : decode cL_text 538 = .ok (.ifCond .eq 90, 3) := by decide +kernel
theorem dL_text_541 : decode cL_text 541 = .ok (.new 14, 3) := by decide +kernel
theorem dL_text_544 : decode cL_text 544 = .ok (.dup, 1) := by decide +kernel
theorem dL_text_545 : decode cL_text 545 = .ok (.invokespecial 16, 3) := by decide +kernel
theorem dL_text_548 : decode cL_text 548 = .ok (.aload_n 1, 1) := by decide +kernel
theorem dL_text_549 : decode cL_text 549 = .ok (.invokevirtual 17, 3) := by decide +kernel
theorem dL_text_552 : decode cL_text 552 = .ok (.ldc 128, 2) := by decide +kernel
theorem dL_text_554 : decode cL_text 554 = .ok (.invokevirtual 17, 3) := by decide +kernel
theorem dL_text_557 : decode cL_text 557 = .ok (.aload_n 0, 1) := by decide +kernel
theorem dL_text_558 : decode cL_text 558 = .ok (.iload_n 2, 1) := by decide +kernel
theorem dL_text_559 : decode cL_text 559 = .ok (.iconst 0, 1) := by decide +kernel
theorem dL_text_560 : decode cL_text 560 = .ok (.invokestatic 130, 3) := by decide +kernel
theorem dL_text_563 : decode cL_text 563 = .ok (.invokestatic 84, 3) := by decide +kernel
theorem dL_text_566 : decode cL_text 566 = .ok (.invokevirtual 17, 3) := by decide +kernel
theorem dL_text_569 : decode cL_text 569 = .ok (.ldc 21, 2) := by decide +kernel
theorem dL_text_571 : decode cL_text 571 = .ok (.invokevirtual 17, 3) := by decide +kernel
theorem dL_text_574 : decode cL_text 574 = .ok (.aload_n 0, 1) := by decide +kernel
theorem dL_text_575 : decode cL_text 575 = .ok (.iload_n 2, 1) := by decide +kernel
theorem dL_text_576 : decode cL_text 576 = .ok (.iconst 1, 1) := by decide +kernel
theorem dL_text_577 : decode cL_text 577 = .ok (.invokestatic 130, 3) := by decide +kernel
theorem dL_text_580 : decode cL_text 580 = .ok (.invokestatic 78, 3) := by decide +kernel
theorem dL_text_583 : decode cL_text 583 = .ok (.invokevirtual 17, 3) := by decide +kernel
theorem dL_text_586 : decode cL_text 586 = .ok (.ldc 21, 2) := by decide +kernel
theorem dL_text_588 : decode cL_text 588 = .ok (.invokevirtual 17, 3) := by decide +kernel
theorem dL_text_591 : decode cL_text 591 = .ok (.aload_n 0, 1) := by decide +kernel
theorem dL_text_592 : decode cL_text 592 = .ok (.iload_n 2, 1) := by decide +kernel
theorem dL_text_593 : decode cL_text 593 = .ok (.iconst 1, 1) := by decide +kernel
theorem dL_text_594 : decode cL_text 594 = .ok (.invokestatic 130, 3) := by decide +kernel
theorem dL_text_597 : decode cL_text 597 = .ok (.iconst 1, 1) := by decide +kernel
theorem dL_text_598 : decode cL_text 598 = .ok (.iadd, 1) := by decide +kernel
theorem dL_text_599 : decode cL_text 599 = .ok (.invokestatic 78, 3) := by decide +kernel
theorem dL_text_602 : decode cL_text 602 = .ok (.invokevirtual 17, 3) := by decide +kernel
theorem dL_text_605 : decode cL_text 605 = .ok (.ldc 21, 2) := by decide +kernel
theorem dL_text_607 : decode cL_text 607 = .ok (.invokevirtual 17, 3) := by decide +kernel
theorem dL_text_610 : decode cL_text 610 = .ok (.aload_n 0, 1) := by decide +kernel
theorem dL_text_611 : decode cL_text 611 = .ok (.iload_n 2, 1) := by decide +kernel
theorem dL_text_612 : decode cL_text 612 = .ok (.iconst 2, 1) := by decide +kernel
theorem dL_text_613 : decode cL_text 613 = .ok (.invokestatic 130, 3) := by decide +kernel
theorem dL_text_616 : decode cL_text 616 = .ok (.invokevirtual 71, 3) := by decide +kernel
theorem dL_text_619 : decode cL_text 619 = .ok (.ldc 74, 2) := by decide +kernel
theorem dL_text_621 : decode cL_text 621 = .ok (.invokevirtual 17, 3) := by decide +kernel
theorem dL_text_624 : decode cL_text 624 = .ok (.invokevirtual 23, 3) := by decide +kernel
theorem dL_text_627 : decode cL_text 627 = .ok (.astore_n 1, 1) := by decide +kernel
theorem dL_text_628 : decode cL_text 628 = .ok (.iinc 2 1, 3) := by decide +kernel
theorem dL_text_631 : decode cL_text 631 = .ok (.goto (-106), 3) := by decide +kernel
theorem dL_text_634 : decode cL_text 634 = .ok (.iconst 0, 1) := by decide +kernel
theorem dL_text_635 : decode cL_text 635 = .ok (.istore_n 2, 1) := by decide +kernel
theorem dL_text_636 : decode cL_text 636 = .ok (.iload_n 2, 1) := by decide +kernel
theorem dL_text_637 : decode cL_text 637 = .ok (.aload_n 0, 1) := by decide +kernel
theorem dL_text_638 : decode cL_text 638 = .ok (.invokestatic 133, 3) := by decide +kernel
theorem dL_text_641 : decode cL_text 641 = .ok (.if_icmp .ge 168, 3) := by decide +kernel
theorem dL_text_644 : decode cL_text 644 = .ok (.new 14, 3) := by decide +kernel
theorem dL_text_647 : decode cL_text 647 = .ok (.dup, 1) := by decide +kernel
theorem dL_text_648 : decode cL_text 648 = .ok (.invokespecial 16, 3) := by decide +kernel
theorem dL_text_651 : decode cL_text 651 = .ok (.aload_n 1, 1) := by decide +kernel
theorem dL_text_652 : decode cL_text 652 = .ok (.invokevirtual 17, 3) := by decide +kernel
theorem dL_text_655 : decode cL_text 655 = .ok (.ldc 136, 2) := by decide +kernel
theorem dL_text_657 : decode cL_text 657 = .ok (.invokevirtual 17, 3) := by decide +kernel
theorem dL_text_660 : decode cL_text 660 = .ok (.bipush 97, 2) := by decide +kernel
theorem dL_text_662 : decode cL_text 662 = .ok (.iload_n 2, 1) := by decide +kernel
theorem dL_text_663 : decode cL_text 663 = .ok (.iadd, 1) := by decide +kernel
theorem dL_text_664 : decode cL_text 664 = .ok (.i2c, 1) := by decide +kernel
theorem dL_text_665 : decode cL_text 665 = .ok (.invokevirtual 61, 3) := by decide +kernel
theorem dL_text_668 : decode cL_text 668 = .ok (.ldc 21, 2) := by decide +kernel
theorem dL_text_670 : decode cL_text 670 = .ok (.invokevirtual 17, 3) := by decide +kernel
theorem dL_text_673 : decode cL_text 673 = .ok (.aload_n 0, 1) := by decide +kernel
theorem dL_text_674 : decode cL_text 674 = .ok (.iload_n 2, 1) := by decide +kernel
theorem dL_text_675 : decode cL_text 675 = .ok (.invokestatic 138, 3) := by decide +kernel
theorem dL_text_678 : decode cL_text 678 = .ok (.invokevirtual 71, 3) := by decide +kernel
theorem dL_text_681 : decode cL_text 681 = .ok (.aload_n 0, 1) := by decide +kernel
theorem dL_text_682 : decode cL_text 682 = .ok (.iload_n 2, 1) := by decide +kernel
theorem dL_text_683 : decode cL_text 683 = .ok (.invokestatic 141, 3) := by decide +kernel
theorem dL_text_686 : decode cL_text 686 = .ok (.ifCond .ne 8, 3) := by decide +kernel
theorem dL_text_689 : decode cL_text 689 = .ok (.ldc 144, 2) := by decide +kernel
theorem dL_text_691 : decode cL_text 691 = .ok (.goto 5, 3) := by decide +kernel
theorem dL_text_694 : decode cL_text 694 = .ok (.ldc 146, 2) := by decide +kernel
theorem dL_text_696 : decode cL_text 696 = .ok (.invokevirtual 17, 3) := by decide +kernel
theorem dL_text_699 : decode cL_text 699 = .ok (.aload_n 0, 1) := by decide +kernel
theorem dL_text_700 : decode cL_text 700 = .ok (.iload_n 2, 1) := by decide +kernel
theorem dL_text_701 : decode cL_text 701 = .ok (.iconst 0, 1) := by decide +kernel
theorem dL_text_702 : decode cL_text 702 = .ok (.invokestatic 148, 3) := by decide +kernel
theorem dL_text_705 : decode cL_text 705 = .ok (.invokestatic 78, 3) := by decide +kernel
theorem dL_text_708 : decode cL_text 708 = .ok (.invokevirtual 17, 3) := by decide +kernel
theorem dL_text_711 : decode cL_text 711 = .ok (.invokevirtual 23, 3) := by decide +kernel
theorem dL_text_714 : decode cL_text 714 = .ok (.astore_n 1, 1) := by decide +kernel
theorem dL_text_715 : decode cL_text 715 = .ok (.iconst 0, 1) := by decide +kernel
theorem dL_text_716 : decode cL_text 716 = .ok (.istore_n 3, 1) := by decide +kernel
theorem dL_text_717 : decode cL_text 717 = .ok (.iload_n 3, 1) := by decide +kernel
theorem dL_text_718 : decode cL_text 718 = .ok (.aload_n 0, 1) := by decide +kernel
theorem dL_text_719 : decode cL_text 719 = .ok (.iload_n 2, 1) := by decide +kernel
theorem dL_text_720 : decode cL_text 720 = .ok (.invokestatic 151, 3) := by decide +kernel
theorem dL_text_723 : decode cL_text 723 = .ok (.if_icmp .ge 60, 3) := by decide +kernel
theorem dL_text_726 : decode cL_text 726 = .ok (.new 14, 3) := by decide +kernel
theorem dL_text_729 : decode cL_text 729 = .ok (.dup, 1) := by decide +kernel
theorem dL_text_730 : decode cL_text 730 = .ok (.invokespecial 16, 3) := by decide +kernel
theorem dL_text_733 : decode cL_text 733 = .ok (.aload_n 1, 1) := by decide +kernel
theorem dL_text_734 : decode cL_text 734 = .ok (.invokevirtual 17, 3) := by decide +kernel
theorem dL_text_737 : decode cL_text 737 = .ok (.ldc 21, 2) := by decide +kernel
theorem dL_text_739 : decode cL_text 739 = .ok (.invokevirtual 17, 3) := by decide +kernel
theorem dL_text_742 : decode cL_text 742 = .ok (.aload_n 0, 1) := by decide +kernel
theorem dL_text_743 : decode cL_text 743 = .ok (.iload_n 2, 1) := by decide +kernel
theorem dL_text_744 : decode cL_text 744 = .ok (.iload_n 3, 1) := by decide +kernel
theorem dL_text_745 : decode cL_text 745 = .ok (.invokestatic 154, 3) := by decide +kernel
theorem dL_text_748 : decode cL_text 748 = .ok (.invokestatic 84, 3) := by decide +kernel
theorem dL_text_751 : decode cL_text 751 = .ok (.invokevirtual 17, 3) := by decide +kernel
theorem dL_text_754 : decode cL_text 754 = .ok (.ldc 21, 2) := by decide +kernel
theorem dL_text_756 : decode cL_text 756 = .ok (.invokevirtual 17, 3) := by decide +kernel
theorem dL_text_759 : decode cL_text 759 = .ok (.aload_n 0, 1) := by decide +kernel
theorem dL_text_760 : decode cL_text 760 = .ok (.iload_n 2, 1) := by decide +kernel
theorem dL_text_761 : decode cL_text 761 = .ok (.iload_n 3, 1) := by decide +kernel
theorem dL_text_762 : decode cL_text 762 = .ok (.iconst 1, 1) := by decide +kernel
theorem dL_text_763 : decode cL_text 763 = .ok (.iadd, 1) := by decide +kernel
theorem dL_text_764 : decode cL_text 764 = .ok (.invokestatic 148, 3) := by decide +kernel
theorem dL_text_767 : decode cL_text 767 = .ok (.invokestatic 78, 3) := by decide +kernel
theorem dL_text_770 : decode cL_text 770 = .ok (.invokevirtual 17, 3) := by decide +kernel
theorem dL_text_773 : decode cL_text 773 = .ok (.invokevirtual 23, 3) := by decide +kernel
theorem dL_text_776 : decode cL_text 776 = .ok (.astore_n 1, 1) := by decide +kernel
theorem dL_text_777 : decode cL_text 777 = .ok (.iinc 3 1, 3) := by decide +kernel
theorem dL_text_780 : decode cL_text 780 = .ok (.goto (-63), 3) := by decide +kernel
theorem dL_text_783 : decode cL_text 783 = .ok (.new 14, 3) := by decide +kernel
theorem dL_text_786 : decode cL_text 786 = .ok (.dup, 1) := by decide +kernel
theorem dL_text_787 : decode cL_text 787 = .ok (.invokespecial 16, 3) := by decide +kernel
theorem dL_text_790 : decode cL_text 790 = .ok (.aload_n 1, 1) := by decide +kernel
theorem dL_text_791 : decode cL_text 791 = .ok (.invokevirtual 17, 3) := by decide +kernel
theorem dL_text_794 : decode cL_text 794 = .ok (.ldc 74, 2) := by decide +kernel
theorem dL_text_796 : decode cL_text 796 = .ok (.invokevirtual 17, 3) := by decide +kernel
theorem dL_text_799 : decode cL_text 799 = .ok (.invokevirtual 23, 3) := by decide +kernel
theorem dL_text_802 : decode cL_text 802 = .ok (.astore_n 1, 1) := by decide +kernel
theorem dL_text_803 : decode cL_text 803 = .ok (.iinc 2 1, 3) := by decide +kernel
theorem dL_text_806 : decode cL_text 806 = .ok (.goto (-170), 3) := by decide +kernel
theorem dL_text_809 : decode cL_text 809 = .ok (.aload_n 1, 1) := by decide +kernel
theorem dL_text_810 : decode cL_text 810 = .ok (.areturn, 1) := by decide +kernel
theorem dL_desk_0 : decode cL_desk 0 = .ok (.new 32, 3) := by decide +kernel
theorem dL_desk_3 : decode cL_desk 3 = .ok (.dup, 1) := by decide +kernel
theorem dL_desk_4 : decode cL_desk 4 = .ok (.invokespecial 157, 3) := by decide +kernel
theorem dL_desk_7 : decode cL_desk 7 = .ok (.astore_n 1, 1) := by decide +kernel
theorem dL_desk_8 : decode cL_desk 8 = .ok (.aload_n 0, 1) := by decide +kernel
theorem dL_desk_9 : decode cL_desk 9 = .ok (.invokestatic 158, 3) := by decide +kernel
theorem dL_desk_12 : decode cL_desk 12 = .ok (.astore_n 2, 1) := by decide +kernel
theorem dL_desk_13 : decode cL_desk 13 = .ok (.aload_n 1, 1) := by decide +kernel
theorem dL_desk_14 : decode cL_desk 14 = .ok (.aload_n 2, 1) := by decide +kernel
theorem dL_desk_15 : decode cL_desk 15 = .ok (.invokestatic 162, 3) := by decide +kernel
theorem dL_desk_18 : decode cL_desk 18 = .ok (.aload_n 1, 1) := by decide +kernel
theorem dL_desk_19 : decode cL_desk 19 = .ok (.aload_n 2, 1) := by decide +kernel
theorem dL_desk_20 : decode cL_desk 20 = .ok (.invokevirtual 8, 3) := by decide +kernel
theorem dL_desk_23 : decode cL_desk 23 = .ok (.invokevirtual 166, 3) := by decide +kernel
theorem dL_desk_26 : decode cL_desk 26 = .ok (.aload_n 2, 1) := by decide +kernel
theorem dL_desk_27 : decode cL_desk 27 = .ok (.invokestatic 169, 3) := by decide +kernel
theorem dL_desk_30 : decode cL_desk 30 = .ok (.if_icmp .ne 7, 3) := by decide +kernel
theorem dL_desk_33 : decode cL_desk 33 = .ok (.aload_n 1, 1) := by decide +kernel
theorem dL_desk_34 : decode cL_desk 34 = .ok (.goto 4, 3) := by decide +kernel
theorem dL_desk_37 : decode cL_desk 37 = .ok (.aconst_null, 1) := by decide +kernel
theorem dL_desk_38 : decode cL_desk 38 = .ok (.areturn, 1) := by decide +kernel
theorem dL_miles_0 : decode cL_miles 0 = .ok (.iconst 0, 1) := by decide +kernel
theorem dL_miles_1 : decode cL_miles 1 = .ok (.istore_n 3, 1) := by decide +kernel
theorem dL_miles_2 : decode cL_miles 2 = .ok (.iconst 0, 1) := by decide +kernel
theorem dL_miles_3 : decode cL_miles 3 = .ok (.istore 4, 2) := by decide +kernel
theorem dL_miles_5 : decode cL_miles 5 = .ok (.iconst 0, 1) := by decide +kernel
theorem dL_miles_6 : decode cL_miles 6 = .ok (.istore 5, 2) := by decide +kernel
theorem dL_miles_8 : decode cL_miles 8 = .ok (.iload 5, 2) := by decide +kernel
theorem dL_miles_10 : decode cL_miles 10 = .ok (.iconst 1, 1) := by decide +kernel
theorem dL_miles_11 : decode cL_miles 11 = .ok (.iadd, 1) := by decide +kernel
theorem dL_miles_12 : decode cL_miles 12 = .ok (.aload_n 0, 1) := by decide +kernel
theorem dL_miles_13 : decode cL_miles 13 = .ok (.invokestatic 47, 3) := by decide +kernel
theorem dL_miles_16 : decode cL_miles 16 = .ok (.if_icmp .ge 53, 3) := by decide +kernel
theorem dL_miles_19 : decode cL_miles 19 = .ok (.iload 4, 2) := by decide +kernel
theorem dL_miles_21 : decode cL_miles 21 = .ok (.aload_n 0, 1) := by decide +kernel
theorem dL_miles_22 : decode cL_miles 22 = .ok (.iload 5, 2) := by decide +kernel
theorem dL_miles_24 : decode cL_miles 24 = .ok (.invokestatic 89, 3) := by decide +kernel
theorem dL_miles_27 : decode cL_miles 27 = .ok (.iadd, 1) := by decide +kernel
theorem dL_miles_28 : decode cL_miles 28 = .ok (.istore 4, 2) := by decide +kernel
theorem dL_miles_30 : decode cL_miles 30 = .ok (.iload_n 3, 1) := by decide +kernel
theorem dL_miles_31 : decode cL_miles 31 = .ok (.iload 5, 2) := by decide +kernel
theorem dL_miles_33 : decode cL_miles 33 = .ok (.iload_n 1, 1) := by decide +kernel
theorem dL_miles_34 : decode cL_miles 34 = .ok (.iload_n 2, 1) := by decide +kernel
theorem dL_miles_35 : decode cL_miles 35 = .ok (.invokestatic 173, 3) := by decide +kernel
theorem dL_miles_38 : decode cL_miles 38 = .ok (.if_icmp .lt 22, 3) := by decide +kernel
theorem dL_miles_41 : decode cL_miles 41 = .ok (.iload 5, 2) := by decide +kernel
theorem dL_miles_43 : decode cL_miles 43 = .ok (.iload_n 1, 1) := by decide +kernel
theorem dL_miles_44 : decode cL_miles 44 = .ok (.iload_n 2, 1) := by decide +kernel
theorem dL_miles_45 : decode cL_miles 45 = .ok (.invokestatic 178, 3) := by decide +kernel
theorem dL_miles_48 : decode cL_miles 48 = .ok (.if_icmp .ge 12, 3) := by decide +kernel
theorem dL_miles_51 : decode cL_miles 51 = .ok (.aload_n 0, 1) := by decide +kernel
theorem dL_miles_52 : decode cL_miles 52 = .ok (.iload 5, 2) := by decide +kernel
theorem dL_miles_54 : decode cL_miles 54 = .ok (.invokestatic 89, 3) := by decide +kernel
theorem dL_miles_57 : decode cL_miles 57 = .ok (.goto 4, 3) := by decide +kernel
theorem dL_miles_60 : decode cL_miles 60 = .ok (.iconst 0, 1) := by decide +kernel
theorem dL_miles_61 : decode cL_miles 61 = .ok (.iadd, 1) := by decide +kernel
theorem dL_miles_62 : decode cL_miles 62 = .ok (.istore_n 3, 1) := by decide +kernel
theorem dL_miles_63 : decode cL_miles 63 = .ok (.iinc 5 1, 3) := by decide +kernel
theorem dL_miles_66 : decode cL_miles 66 = .ok (.goto (-58), 3) := by decide +kernel
theorem dL_miles_69 : decode cL_miles 69 = .ok (.aload_n 0, 1) := by decide +kernel
theorem dL_miles_70 : decode cL_miles 70 = .ok (.invokestatic 92, 3) := by decide +kernel
theorem dL_miles_73 : decode cL_miles 73 = .ok (.ifCond .ne 7, 3) := by decide +kernel
theorem dL_miles_76 : decode cL_miles 76 = .ok (.iload_n 3, 1) := by decide +kernel
theorem dL_miles_77 : decode cL_miles 77 = .ok (.goto 16, 3) := by decide +kernel
theorem dL_miles_80 : decode cL_miles 80 = .ok (.iload_n 3, 1) := by decide +kernel
theorem dL_miles_81 : decode cL_miles 81 = .ok (.iload 4, 2) := by decide +kernel
theorem dL_miles_83 : decode cL_miles 83 = .ok (.iload_n 3, 1) := by decide +kernel
theorem dL_miles_84 : decode cL_miles 84 = .ok (.isub, 1) := by decide +kernel
theorem dL_miles_85 : decode cL_miles 85 = .ok (.aload_n 0, 1) := by decide +kernel
theorem dL_miles_86 : decode cL_miles 86 = .ok (.invokestatic 92, 3) := by decide +kernel
theorem dL_miles_89 : decode cL_miles 89 = .ok (.iadd, 1) := by decide +kernel
theorem dL_miles_90 : decode cL_miles 90 = .ok (.invokestatic 173, 3) := by decide +kernel
theorem dL_miles_93 : decode cL_miles 93 = .ok (.ireturn, 1) := by decide +kernel
theorem dL_weightOf_0 : decode cL_weightOf 0 = .ok (.iconst 0, 1) := by decide +kernel
theorem dL_weightOf_1 : decode cL_weightOf 1 = .ok (.istore_n 2, 1) := by decide +kernel
theorem dL_weightOf_2 : decode cL_weightOf 2 = .ok (.iload_n 2, 1) := by decide +kernel
theorem dL_weightOf_3 : decode cL_weightOf 3 = .ok (.aload_n 0, 1) := by decide +kernel
theorem dL_weightOf_4 : decode cL_weightOf 4 = .ok (.invokestatic 95, 3) := by decide +kernel
theorem dL_weightOf_7 : decode cL_weightOf 7 = .ok (.if_icmp .ge 24, 3) := by decide +kernel
theorem dL_weightOf_10 : decode cL_weightOf 10 = .ok (.iload_n 1, 1) := by decide +kernel
theorem dL_weightOf_11 : decode cL_weightOf 11 = .ok (.aload_n 0, 1) := by decide +kernel
theorem dL_weightOf_12 : decode cL_weightOf 12 = .ok (.iload_n 2, 1) := by decide +kernel
theorem dL_weightOf_13 : decode cL_weightOf 13 = .ok (.invokestatic 100, 3) := by decide +kernel
theorem dL_weightOf_16 : decode cL_weightOf 16 = .ok (.if_icmp .gt 9, 3) := by decide +kernel
theorem dL_weightOf_19 : decode cL_weightOf 19 = .ok (.aload_n 0, 1) := by decide +kernel
theorem dL_weightOf_20 : decode cL_weightOf 20 = .ok (.iload_n 2, 1) := by decide +kernel
theorem dL_weightOf_21 : decode cL_weightOf 21 = .ok (.invokestatic 103, 3) := by decide +kernel
theorem dL_weightOf_24 : decode cL_weightOf 24 = .ok (.ireturn, 1) := by decide +kernel
theorem dL_weightOf_25 : decode cL_weightOf 25 = .ok (.iinc 2 1, 3) := by decide +kernel
theorem dL_weightOf_28 : decode cL_weightOf 28 = .ok (.goto (-26), 3) := by decide +kernel
theorem dL_weightOf_31 : decode cL_weightOf 31 = .ok (.bipush 100, 2) := by decide +kernel
theorem dL_weightOf_33 : decode cL_weightOf 33 = .ok (.ireturn, 1) := by decide +kernel
theorem dL_baseOf_0 : decode cL_baseOf 0 = .ok (.iconst 0, 1) := by decide +kernel
theorem dL_baseOf_1 : decode cL_baseOf 1 = .ok (.istore 4, 2) := by decide +kernel
theorem dL_baseOf_3 : decode cL_baseOf 3 = .ok (.iload 4, 2) := by decide +kernel
theorem dL_baseOf_5 : decode cL_baseOf 5 = .ok (.aload_n 0, 1) := by decide +kernel
theorem dL_baseOf_6 : decode cL_baseOf 6 = .ok (.invokestatic 121, 3) := by decide +kernel
theorem dL_baseOf_9 : decode cL_baseOf 9 = .ok (.if_icmp .ge 69, 3) := by decide +kernel
theorem dL_baseOf_12 : decode cL_baseOf 12 = .ok (.aload_n 0, 1) := by decide +kernel
theorem dL_baseOf_13 : decode cL_baseOf 13 = .ok (.iload 4, 2) := by decide +kernel
theorem dL_baseOf_15 : decode cL_baseOf 15 = .ok (.invokestatic 124, 3) := by decide +kernel
theorem dL_baseOf_18 : decode cL_baseOf 18 = .ok (.ifCond .eq 54, 3) := by decide +kernel
theorem dL_baseOf_21 : decode cL_baseOf 21 = .ok (.aload_n 0, 1) := by decide +kernel
theorem dL_baseOf_22 : decode cL_baseOf 22 = .ok (.iload 4, 2) := by decide +kernel
theorem dL_baseOf_24 : decode cL_baseOf 24 = .ok (.iconst 0, 1) := by decide +kernel
theorem dL_baseOf_25 : decode cL_baseOf 25 = .ok (.invokestatic 130, 3) := by decide +kernel
theorem dL_baseOf_28 : decode cL_baseOf 28 = .ok (.iload_n 1, 1) := by decide +kernel
theorem dL_baseOf_29 : decode cL_baseOf 29 = .ok (.if_icmp .ne 43, 3) := by decide +kernel
theorem dL_baseOf_32 : decode cL_baseOf 32 = .ok (.iload_n 2, 1) := by decide +kernel
theorem dL_baseOf_33 : decode cL_baseOf 33 = .ok (.iload_n 3, 1) := by decide +kernel
theorem dL_baseOf_34 : decode cL_baseOf 34 = .ok (.invokestatic 173, 3) := by decide +kernel
theorem dL_baseOf_37 : decode cL_baseOf 37 = .ok (.aload_n 0, 1) := by decide +kernel
theorem dL_baseOf_38 : decode cL_baseOf 38 = .ok (.iload 4, 2) := by decide +kernel
theorem dL_baseOf_40 : decode cL_baseOf 40 = .ok (.iconst 1, 1) := by decide +kernel
theorem dL_baseOf_41 : decode cL_baseOf 41 = .ok (.invokestatic 130, 3) := by decide +kernel
theorem dL_baseOf_44 : decode cL_baseOf 44 = .ok (.if_icmp .ne 28, 3) := by decide +kernel
theorem dL_baseOf_47 : decode cL_baseOf 47 = .ok (.iload_n 2, 1) := by decide +kernel
theorem dL_baseOf_48 : decode cL_baseOf 48 = .ok (.iload_n 3, 1) := by decide +kernel
theorem dL_baseOf_49 : decode cL_baseOf 49 = .ok (.invokestatic 178, 3) := by decide +kernel
theorem dL_baseOf_52 : decode cL_baseOf 52 = .ok (.aload_n 0, 1) := by decide +kernel
theorem dL_baseOf_53 : decode cL_baseOf 53 = .ok (.iload 4, 2) := by decide +kernel
theorem dL_baseOf_55 : decode cL_baseOf 55 = .ok (.iconst 1, 1) := by decide +kernel
theorem dL_baseOf_56 : decode cL_baseOf 56 = .ok (.invokestatic 130, 3) := by decide +kernel
theorem dL_baseOf_59 : decode cL_baseOf 59 = .ok (.iconst 1, 1) := by decide +kernel
theorem dL_baseOf_60 : decode cL_baseOf 60 = .ok (.iadd, 1) := by decide +kernel
theorem dL_baseOf_61 : decode cL_baseOf 61 = .ok (.if_icmp .ne 11, 3) := by decide +kernel
theorem dL_baseOf_64 : decode cL_baseOf 64 = .ok (.aload_n 0, 1) := by decide +kernel
theorem dL_baseOf_65 : decode cL_baseOf 65 = .ok (.iload 4, 2) := by decide +kernel
theorem dL_baseOf_67 : decode cL_baseOf 67 = .ok (.iconst 2, 1) := by decide +kernel
theorem dL_baseOf_68 : decode cL_baseOf 68 = .ok (.invokestatic 130, 3) := by decide +kernel
theorem dL_baseOf_71 : decode cL_baseOf 71 = .ok (.ireturn, 1) := by decide +kernel
theorem dL_baseOf_72 : decode cL_baseOf 72 = .ok (.iinc 4 1, 3) := by decide +kernel
theorem dL_baseOf_75 : decode cL_baseOf 75 = .ok (.goto (-72), 3) := by decide +kernel
theorem dL_baseOf_78 : decode cL_baseOf 78 = .ok (.bipush (-2), 2) := by decide +kernel
theorem dL_baseOf_80 : decode cL_baseOf 80 = .ok (.ireturn, 1) := by decide +kernel
theorem dL_factor_0 : decode cL_factor 0 = .ok (.aload_n 0, 1) := by decide +kernel
theorem dL_factor_1 : decode cL_factor 1 = .ok (.iload_n 3, 1) := by decide +kernel
theorem dL_factor_2 : decode cL_factor 2 = .ok (.iload 4, 2) := by decide +kernel
theorem dL_factor_4 : decode cL_factor 4 = .ok (.invokestatic 181, 3) := by decide +kernel
theorem dL_factor_7 : decode cL_factor 7 = .ok (.istore 5, 2) := by decide +kernel
theorem dL_factor_9 : decode cL_factor 9 = .ok (.iload_n 1, 1) := by decide +kernel
theorem dL_factor_10 : decode cL_factor 10 = .ok (.ifCond .ne 15, 3) := by decide +kernel
theorem dL_factor_13 : decode cL_factor 13 = .ok (.iload 5, 2) := by decide +kernel
theorem dL_factor_15 : decode cL_factor 15 = .ok (.i2l, 1) := by decide +kernel
theorem dL_factor_16 : decode cL_factor 16 = .ok (.aload_n 0, 1) := by decide +kernel
theorem dL_factor_17 : decode cL_factor 17 = .ok (.iload 5, 2) := by decide +kernel
theorem dL_factor_19 : decode cL_factor 19 = .ok (.invokestatic 184, 3) := by decide +kernel
theorem dL_factor_22 : decode cL_factor 22 = .ok (.i2l, 1) := by decide +kernel
theorem dL_factor_23 : decode cL_factor 23 = .ok (.lmul, 1) := by decide +kernel
theorem dL_factor_24 : decode cL_factor 24 = .ok (.lreturn, 1) := by decide +kernel
theorem dL_factor_25 : decode cL_factor 25 = .ok (.aload_n 0, 1) := by decide +kernel
theorem dL_factor_26 : decode cL_factor 26 = .ok (.iload_n 2, 1) := by decide +kernel
theorem dL_factor_27 : decode cL_factor 27 = .ok (.iload_n 3, 1) := by decide +kernel
theorem dL_factor_28 : decode cL_factor 28 = .ok (.iload 4, 2) := by decide +kernel
theorem dL_factor_30 : decode cL_factor 30 = .ok (.invokestatic 187, 3) := by decide +kernel
theorem dL_factor_33 : decode cL_factor 33 = .ok (.ifCond .ge 15, 3) := by decide +kernel
theorem dL_factor_36 : decode cL_factor 36 = .ok (.iload 5, 2) := by decide +kernel
theorem dL_factor_38 : decode cL_factor 38 = .ok (.i2l, 1) := by decide +kernel
theorem dL_factor_39 : decode cL_factor 39 = .ok (.aload_n 0, 1) := by decide +kernel
theorem dL_factor_40 : decode cL_factor 40 = .ok (.invokestatic 68, 3) := by decide +kernel
theorem dL_factor_43 : decode cL_factor 43 = .ok (.i2l, 1) := by decide +kernel
theorem dL_factor_44 : decode cL_factor 44 = .ok (.lmul, 1) := by decide +kernel
theorem dL_factor_45 : decode cL_factor 45 = .ok (.goto 12, 3) := by decide +kernel
theorem dL_factor_48 : decode cL_factor 48 = .ok (.aload_n 0, 1) := by decide +kernel
theorem dL_factor_49 : decode cL_factor 49 = .ok (.iload_n 2, 1) := by decide +kernel
theorem dL_factor_50 : decode cL_factor 50 = .ok (.iload_n 3, 1) := by decide +kernel
theorem dL_factor_51 : decode cL_factor 51 = .ok (.iload 4, 2) := by decide +kernel
theorem dL_factor_53 : decode cL_factor 53 = .ok (.invokestatic 187, 3) := by decide +kernel
theorem dL_factor_56 : decode cL_factor 56 = .ok (.i2l, 1) := by decide +kernel
theorem dL_factor_57 : decode cL_factor 57 = .ok (.lreturn, 1) := by decide +kernel
theorem dL_holds_0 : decode cL_holds 0 = .ok (.iconst 0, 1) := by decide +kernel
theorem dL_holds_1 : decode cL_holds 1 = .ok (.istore 5, 2) := by decide +kernel
theorem dL_holds_3 : decode cL_holds 3 = .ok (.iload 5, 2) := by decide +kernel
theorem dL_holds_5 : decode cL_holds 5 = .ok (.aload_n 0, 1) := by decide +kernel
theorem dL_holds_6 : decode cL_holds 6 = .ok (.invokestatic 106, 3) := by decide +kernel
theorem dL_holds_9 : decode cL_holds 9 = .ok (.if_icmp .ge 175, 3) := by decide +kernel
theorem dL_holds_12 : decode cL_holds 12 = .ok (.iload 5, 2) := by decide +kernel
theorem dL_holds_14 : decode cL_holds 14 = .ok (.iload 4, 2) := by decide +kernel
theorem dL_holds_16 : decode cL_holds 16 = .ok (.if_icmp .eq 162, 3) := by decide +kernel
theorem dL_holds_19 : decode cL_holds 19 = .ok (.aload_n 0, 1) := by decide +kernel
theorem dL_holds_20 : decode cL_holds 20 = .ok (.iload 5, 2) := by decide +kernel
theorem dL_holds_22 : decode cL_holds 22 = .ok (.iconst 0, 1) := by decide +kernel
theorem dL_holds_23 : decode cL_holds 23 = .ok (.invokestatic 54, 3) := by decide +kernel
theorem dL_holds_26 : decode cL_holds 26 = .ok (.aload_n 2, 1) := by decide +kernel
theorem dL_holds_27 : decode cL_holds 27 = .ok (.iload_n 3, 1) := by decide +kernel
theorem dL_holds_28 : decode cL_holds 28 = .ok (.iaload, 1) := by decide +kernel
theorem dL_holds_29 : decode cL_holds 29 = .ok (.if_icmp .eq 6, 3) := by decide +kernel
theorem dL_holds_32 : decode cL_holds 32 = .ok (.goto 146, 3) := by decide +kernel
theorem dL_holds_35 : decode cL_holds 35 = .ok (.aload_n 0, 1) := by decide +kernel
theorem dL_holds_36 : decode cL_holds 36 = .ok (.iload 5, 2) := by decide +kernel
theorem dL_holds_38 : decode cL_holds 38 = .ok (.iconst 1, 1) := by decide +kernel
theorem dL_holds_39 : decode cL_holds 39 = .ok (.invokestatic 54, 3) := by decide +kernel
theorem dL_holds_42 : decode cL_holds 42 = .ok (.istore 6, 2) := by decide +kernel
theorem dL_holds_44 : decode cL_holds 44 = .ok (.aload_n 0, 1) := by decide +kernel
theorem dL_holds_45 : decode cL_holds 45 = .ok (.iload 5, 2) := by decide +kernel
theorem dL_holds_47 : decode cL_holds 47 = .ok (.iconst 2, 1) := by decide +kernel
theorem dL_holds_48 : decode cL_holds 48 = .ok (.invokestatic 54, 3) := by decide +kernel
theorem dL_holds_51 : decode cL_holds 51 = .ok (.istore 7, 2) := by decide +kernel
theorem dL_holds_53 : decode cL_holds 53 = .ok (.aload_n 0, 1) := by decide +kernel
theorem dL_holds_54 : decode cL_holds 54 = .ok (.iload_n 1, 1) := by decide +kernel
theorem dL_holds_55 : decode cL_holds 55 = .ok (.iload_n 3, 1) := by decide +kernel
theorem dL_holds_56 : decode cL_holds 56 = .ok (.invokestatic 148, 3) := by decide +kernel
theorem dL_holds_59 : decode cL_holds 59 = .ok (.istore 8, 2) := by decide +kernel
theorem dL_holds_61 : decode cL_holds 61 = .ok (.aload_n 0, 1) := by decide +kernel
theorem dL_holds_62 : decode cL_holds 62 = .ok (.iload_n 1, 1) := by decide +kernel
theorem dL_holds_63 : decode cL_holds 63 = .ok (.iload_n 3, 1) := by decide +kernel
theorem dL_holds_64 : decode cL_holds 64 = .ok (.iconst 1, 1) := by decide +kernel
theorem dL_holds_65 : decode cL_holds 65 = .ok (.iadd, 1) := by decide +kernel
theorem dL_holds_66 : decode cL_holds 66 = .ok (.invokestatic 148, 3) := by decide +kernel
theorem dL_holds_69 : decode cL_holds 69 = .ok (.istore 9, 2) := by decide +kernel
theorem dL_holds_71 : decode cL_holds 71 = .ok (.iload 6, 2) := by decide +kernel
theorem dL_holds_73 : decode cL_holds 73 = .ok (.ifCond .lt 34, 3) := by decide +kernel
theorem dL_holds_76 : decode cL_holds 76 = .ok (.iload 6, 2) := by decide +kernel
theorem dL_holds_78 : decode cL_holds 78 = .ok (.iload 8, 2) := by decide +kernel
theorem dL_holds_80 : decode cL_holds 80 = .ok (.if_icmp .ne 10, 3) := by decide +kernel
theorem dL_holds_83 : decode cL_holds 83 = .ok (.iload 7, 2) := by decide +kernel
theorem dL_holds_85 : decode cL_holds 85 = .ok (.iload 9, 2) := by decide +kernel
theorem dL_holds_87 : decode cL_holds 87 = .ok (.if_icmp .eq 20, 3) := by decide +kernel
theorem dL_holds_90 : decode cL_holds 90 = .ok (.iload 6, 2) := by decide +kernel
theorem dL_holds_92 : decode cL_holds 92 = .ok (.iload 9, 2) := by decide +kernel
theorem dL_holds_94 : decode cL_holds 94 = .ok (.if_icmp .ne 84, 3) := by decide +kernel
theorem dL_holds_97 : decode cL_holds 97 = .ok (.iload 7, 2) := by decide +kernel
theorem dL_holds_99 : decode cL_holds 99 = .ok (.iload 8, 2) := by decide +kernel
theorem dL_holds_101 : decode cL_holds 101 = .ok (.if_icmp .eq 6, 3) := by decide +kernel
theorem dL_holds_104 : decode cL_holds 104 = .ok (.goto 74, 3) := by decide +kernel
theorem dL_holds_107 : decode cL_holds 107 = .ok (.aload_n 0, 1) := by decide +kernel
theorem dL_holds_108 : decode cL_holds 108 = .ok (.iload 5, 2) := by decide +kernel
theorem dL_holds_110 : decode cL_holds 110 = .ok (.iconst 5, 1) := by decide +kernel
theorem dL_holds_111 : decode cL_holds 111 = .ok (.invokestatic 54, 3) := by decide +kernel
theorem dL_holds_114 : decode cL_holds 114 = .ok (.ifCond .ge 7, 3) := by decide +kernel
theorem dL_holds_117 : decode cL_holds 117 = .ok (.iconst 1, 1) := by decide +kernel
theorem dL_holds_118 : decode cL_holds 118 = .ok (.goto 4, 3) := by decide +kernel
theorem dL_holds_121 : decode cL_holds 121 = .ok (.iconst 0, 1) := by decide +kernel
theorem dL_holds_122 : decode cL_holds 122 = .ok (.istore 10, 2) := by decide +kernel
theorem dL_holds_124 : decode cL_holds 124 = .ok (.iconst 0, 1) := by decide +kernel
theorem dL_holds_125 : decode cL_holds 125 = .ok (.istore 11, 2) := by decide +kernel
theorem dL_holds_127 : decode cL_holds 127 = .ok (.iload 11, 2) := by decide +kernel
theorem dL_holds_129 : decode cL_holds 129 = .ok (.aload_n 2, 1) := by decide +kernel
theorem dL_holds_130 : decode cL_holds 130 = .ok (.arraylength, 1) := by decide +kernel
theorem dL_holds_131 : decode cL_holds 131 = .ok (.if_icmp .ge 39, 3) := by decide +kernel
theorem dL_holds_134 : decode cL_holds 134 = .ok (.iload 10, 2) := by decide +kernel
theorem dL_holds_136 : decode cL_holds 136 = .ok (.iload 11, 2) := by decide +kernel
theorem dL_holds_138 : decode cL_holds 138 = .ok (.iload_n 3, 1) := by decide +kernel
theorem dL_holds_139 : decode cL_holds 139 = .ok (.if_icmp .eq 21, 3) := by decide +kernel
theorem dL_holds_142 : decode cL_holds 142 = .ok (.aload_n 2, 1) := by decide +kernel
theorem dL_holds_143 : decode cL_holds 143 = .ok (.iload 11, 2) := by decide +kernel
theorem dL_holds_145 : decode cL_holds 145 = .ok (.iaload, 1) := by decide +kernel
theorem dL_holds_146 : decode cL_holds 146 = .ok (.aload_n 0, 1) := by decide +kernel
theorem dL_holds_147 : decode cL_holds 147 = .ok (.iload 5, 2) := by decide +kernel
theorem dL_holds_149 : decode cL_holds 149 = .ok (.iconst 5, 1) := by decide +kernel
theorem dL_holds_150 : decode cL_holds 150 = .ok (.invokestatic 54, 3) := by decide +kernel
theorem dL_holds_153 : decode cL_holds 153 = .ok (.if_icmp .ne 7, 3) := by decide +kernel
theorem dL_holds_156 : decode cL_holds 156 = .ok (.iconst 1, 1) := by decide +kernel
theorem dL_holds_157 : decode cL_holds 157 = .ok (.goto 4, 3) := by decide +kernel
theorem dL_holds_160 : decode cL_holds 160 = .ok (.iconst 0, 1) := by decide +kernel
theorem dL_holds_161 : decode cL_holds 161 = .ok (.ior, 1) := by decide +kernel
theorem dL_holds_162 : decode cL_holds 162 = .ok (.istore 10, 2) := by decide +kernel
theorem dL_holds_164 : decode cL_holds 164 = .ok (.iinc 11 1, 3) := by decide +kernel
theorem dL_holds_167 : decode cL_holds 167 = .ok (.goto (-40), 3) := by decide +kernel
theorem dL_holds_170 : decode cL_holds 170 = .ok (.iload 10, 2) := by decide +kernel
theorem dL_holds_172 : decode cL_holds 172 = .ok (.ifCond .eq 6, 3) := by decide +kernel
theorem dL_holds_175 : decode cL_holds 175 = .ok (.iload 5, 2) := by decide +kernel
theorem dL_holds_177 : decode cL_holds 177 = .ok (.ireturn, 1) := by decide +kernel
theorem dL_holds_178 : decode cL_holds 178 = .ok (.iinc 5 1, 3) := by decide +kernel
theorem dL_holds_181 : decode cL_holds 181 = .ok (.goto (-178), 3) := by decide +kernel
theorem dL_holds_184 : decode cL_holds 184 = .ok (.bipush (-2), 2) := by decide +kernel
theorem dL_holds_186 : decode cL_holds 186 = .ok (.ireturn, 1) := by decide +kernel
theorem dL_many_0 : decode cL_many 0 = .ok (.iconst 0, 1) := by decide +kernel
theorem dL_many_1 : decode cL_many 1 = .ok (.istore_n 1, 1) := by decide +kernel
theorem dL_many_2 : decode cL_many 2 = .ok (.aload_n 0, 1) := by decide +kernel
theorem dL_many_3 : decode cL_many 3 = .ok (.astore_n 2, 1) := by decide +kernel
theorem dL_many_4 : decode cL_many 4 = .ok (.aload_n 2, 1) := by decide +kernel
theorem dL_many_5 : decode cL_many 5 = .ok (.arraylength, 1) := by decide +kernel
theorem dL_many_6 : decode cL_many 6 = .ok (.istore_n 3, 1) := by decide +kernel
theorem dL_many_7 : decode cL_many 7 = .ok (.iconst 0, 1) := by decide +kernel
theorem dL_many_8 : decode cL_many 8 = .ok (.istore 4, 2) := by decide +kernel
theorem dL_many_10 : decode cL_many 10 = .ok (.iload 4, 2) := by decide +kernel
theorem dL_many_12 : decode cL_many 12 = .ok (.iload_n 3, 1) := by decide +kernel
theorem dL_many_13 : decode cL_many 13 = .ok (.if_icmp .ge 28, 3) := by decide +kernel
theorem dL_many_16 : decode cL_many 16 = .ok (.aload_n 2, 1) := by decide +kernel
theorem dL_many_17 : decode cL_many 17 = .ok (.iload 4, 2) := by decide +kernel
theorem dL_many_19 : decode cL_many 19 = .ok (.baload, 1) := by decide +kernel
theorem dL_many_20 : decode cL_many 20 = .ok (.istore 5, 2) := by decide +kernel
theorem dL_many_22 : decode cL_many 22 = .ok (.iload_n 1, 1) := by decide +kernel
theorem dL_many_23 : decode cL_many 23 = .ok (.iload 5, 2) := by decide +kernel
theorem dL_many_25 : decode cL_many 25 = .ok (.ifCond .eq 7, 3) := by decide +kernel
theorem dL_many_28 : decode cL_many 28 = .ok (.iconst 1, 1) := by decide +kernel
theorem dL_many_29 : decode cL_many 29 = .ok (.goto 4, 3) := by decide +kernel
theorem dL_many_32 : decode cL_many 32 = .ok (.iconst 0, 1) := by decide +kernel
theorem dL_many_33 : decode cL_many 33 = .ok (.iadd, 1) := by decide +kernel
theorem dL_many_34 : decode cL_many 34 = .ok (.istore_n 1, 1) := by decide +kernel
theorem dL_many_35 : decode cL_many 35 = .ok (.iinc 4 1, 3) := by decide +kernel
theorem dL_many_38 : decode cL_many 38 = .ok (.goto (-28), 3) := by decide +kernel
theorem dL_many_41 : decode cL_many 41 = .ok (.iload_n 1, 1) := by decide +kernel
theorem dL_many_42 : decode cL_many 42 = .ok (.ireturn, 1) := by decide +kernel
theorem dL_found_0 : decode cL_found 0 = .ok (.aload_n 3, 1) := by decide +kernel
theorem dL_found_1 : decode cL_found 1 = .ok (.arraylength, 1) := by decide +kernel
theorem dL_found_2 : decode cL_found 2 = .ok (.istore 7, 2) := by decide +kernel
theorem dL_found_4 : decode cL_found 4 = .ok (.new 191, 3) := by decide +kernel
theorem dL_found_7 : decode cL_found 7 = .ok (.dup, 1) := by decide +kernel
theorem dL_found_8 : decode cL_found 8 = .ok (.iload 7, 2) := by decide +kernel
theorem dL_found_10 : decode cL_found 10 = .ok (.invokespecial 193, 3) := by decide +kernel
theorem dL_found_13 : decode cL_found 13 = .ok (.astore 8, 2) := by decide +kernel
theorem dL_found_15 : decode cL_found 15 = .ok (.aload_n 0, 1) := by decide +kernel
theorem dL_found_16 : decode cL_found 16 = .ok (.iload_n 1, 1) := by decide +kernel
theorem dL_found_17 : decode cL_found 17 = .ok (.invokestatic 138, 3) := by decide +kernel
theorem dL_found_20 : decode cL_found 20 = .ok (.i2l, 1) := by decide +kernel
theorem dL_found_21 : decode cL_found 21 = .ok (.lstore 9, 2) := by decide +kernel
theorem dL_found_23 : decode cL_found 23 = .ok (.iload 7, 2) := by decide +kernel
theorem dL_found_25 : decode cL_found 25 = .ok (.newarray .boolean, 2) := by decide +kernel
theorem dL_found_27 : decode cL_found 27 = .ok (.astore 11, 2) := by decide +kernel
theorem dL_found_29 : decode cL_found 29 = .ok (.iload 7, 2) := by decide +kernel
theorem dL_found_31 : decode cL_found 31 = .ok (.newarray .long, 2) := by decide +kernel
theorem dL_found_33 : decode cL_found 33 = .ok (.astore 12, 2) := by decide +kernel
theorem dL_found_35 : decode cL_found 35 = .ok (.iload 7, 2) := by decide +kernel
theorem dL_found_37 : decode cL_found 37 = .ok (.newarray .long, 2) := by decide +kernel
theorem dL_found_39 : decode cL_found 39 = .ok (.astore 13, 2) := by decide +kernel
theorem dL_found_41 : decode cL_found 41 = .ok (.iload 7, 2) := by decide +kernel
theorem dL_found_43 : decode cL_found 43 = .ok (.newarray .int, 2) := by decide +kernel
theorem dL_found_45 : decode cL_found 45 = .ok (.astore 14, 2) := by decide +kernel
theorem dL_found_47 : decode cL_found 47 = .ok (.iconst 0, 1) := by decide +kernel
theorem dL_found_48 : decode cL_found 48 = .ok (.istore 15, 2) := by decide +kernel
theorem dL_found_50 : decode cL_found 50 = .ok (.iload 15, 2) := by decide +kernel
theorem dL_found_52 : decode cL_found 52 = .ok (.iload 7, 2) := by decide +kernel
theorem dL_found_54 : decode cL_found 54 = .ok (.if_icmp .ge 202, 3) := by decide +kernel
theorem dL_found_57 : decode cL_found 57 = .ok (.aload 11, 2) := by decide +kernel
theorem dL_found_59 : decode cL_found 59 = .ok (.iload 15, 2) := by decide +kernel
theorem dL_found_61 : decode cL_found 61 = .ok (.iload 6, 2) := by decide +kernel
theorem dL_found_63 : decode cL_found 63 = .ok (.ifCond .ne 11, 3) := by decide +kernel
theorem dL_found_66 : decode cL_found 66 = .ok (.aload 4, 2) := by decide +kernel
theorem dL_found_68 : decode cL_found 68 = .ok (.iload 15, 2) := by decide +kernel
theorem dL_found_70 : decode cL_found 70 = .ok (.iaload, 1) := by decide +kernel
theorem dL_found_71 : decode cL_found 71 = .ok (.ifCond .ge 7, 3) := by decide +kernel
theorem dL_found_74 : decode cL_found 74 = .ok (.iconst 1, 1) := by decide +kernel
theorem dL_found_75 : decode cL_found 75 = .ok (.goto 4, 3) := by decide +kernel
theorem dL_found_78 : decode cL_found 78 = .ok (.iconst 0, 1) := by decide +kernel
theorem dL_found_79 : decode cL_found 79 = .ok (.bastore, 1) := by decide +kernel
theorem dL_found_80 : decode cL_found 80 = .ok (.aload 12, 2) := by decide +kernel
theorem dL_found_82 : decode cL_found 82 = .ok (.iload 15, 2) := by decide +kernel
theorem dL_found_84 : decode cL_found 84 = .ok (.aload_n 0, 1) := by decide +kernel
theorem dL_found_85 : decode cL_found 85 = .ok (.iload_n 2, 1) := by decide +kernel
theorem dL_found_86 : decode cL_found 86 = .ok (.aload_n 3, 1) := by decide +kernel
theorem dL_found_87 : decode cL_found 87 = .ok (.iload 15, 2) := by decide +kernel
theorem dL_found_89 : decode cL_found 89 = .ok (.iaload, 1) := by decide +kernel
theorem dL_found_90 : decode cL_found 90 = .ok (.aload_n 0, 1) := by decide +kernel
theorem dL_found_91 : decode cL_found 91 = .ok (.iload_n 1, 1) := by decide +kernel
theorem dL_found_92 : decode cL_found 92 = .ok (.iload 15, 2) := by decide +kernel
theorem dL_found_94 : decode cL_found 94 = .ok (.invokestatic 148, 3) := by decide +kernel
theorem dL_found_97 : decode cL_found 97 = .ok (.aload_n 0, 1) := by decide +kernel
theorem dL_found_98 : decode cL_found 98 = .ok (.iload_n 1, 1) := by decide +kernel
theorem dL_found_99 : decode cL_found 99 = .ok (.iload 15, 2) := by decide +kernel
theorem dL_found_101 : decode cL_found 101 = .ok (.iconst 1, 1) := by decide +kernel
theorem dL_found_102 : decode cL_found 102 = .ok (.iadd, 1) := by decide +kernel
theorem dL_found_103 : decode cL_found 103 = .ok (.invokestatic 148, 3) := by decide +kernel
theorem dL_found_106 : decode cL_found 106 = .ok (.invokestatic 196, 3) := by decide +kernel
theorem dL_found_109 : decode cL_found 109 = .ok (.lastore, 1) := by decide +kernel
theorem dL_found_110 : decode cL_found 110 = .ok (.iload 6, 2) := by decide +kernel
theorem dL_found_112 : decode cL_found 112 = .ok (.ifCond .eq 8, 3) := by decide +kernel
theorem dL_found_115 : decode cL_found 115 = .ok (.bipush (-2), 2) := by decide +kernel
theorem dL_found_117 : decode cL_found 117 = .ok (.goto 13, 3) := by decide +kernel
theorem dL_found_120 : decode cL_found 120 = .ok (.aload_n 0, 1) := by decide +kernel
theorem dL_found_121 : decode cL_found 121 = .ok (.iload_n 1, 1) := by decide +kernel
theorem dL_found_122 : decode cL_found 122 = .ok (.aload_n 3, 1) := by decide +kernel
theorem dL_found_123 : decode cL_found 123 = .ok (.iload 15, 2) := by decide +kernel
theorem dL_found_125 : decode cL_found 125 = .ok (.iload 5, 2) := by decide +kernel
theorem dL_found_127 : decode cL_found 127 = .ok (.invokestatic 200, 3) := by decide +kernel
theorem dL_found_130 : decode cL_found 130 = .ok (.istore 16, 2) := by decide +kernel
theorem dL_found_132 : decode cL_found 132 = .ok (.aload 14, 2) := by decide +kernel
theorem dL_found_134 : decode cL_found 134 = .ok (.iload 15, 2) := by decide +kernel
theorem dL_found_136 : decode cL_found 136 = .ok (.iload 16, 2) := by decide +kernel
theorem dL_found_138 : decode cL_found 138 = .ok (.ifCond .ge 7, 3) := by decide +kernel
theorem dL_found_141 : decode cL_found 141 = .ok (.iconst 0, 1) := by decide +kernel
theorem dL_found_142 : decode cL_found 142 = .ok (.goto 10, 3) := by decide +kernel
theorem dL_found_145 : decode cL_found 145 = .ok (.aload_n 0, 1) := by decide +kernel
theorem dL_found_146 : decode cL_found 146 = .ok (.iload 16, 2) := by decide +kernel
theorem dL_found_148 : decode cL_found 148 = .ok (.iconst 3, 1) := by decide +kernel
theorem dL_found_149 : decode cL_found 149 = .ok (.invokestatic 54, 3) := by decide +kernel
theorem dL_found_152 : decode cL_found 152 = .ok (.iastore, 1) := by decide +kernel
theorem dL_found_153 : decode cL_found 153 = .ok (.aload 13, 2) := by decide +kernel
theorem dL_found_155 : decode cL_found 155 = .ok (.iload 15, 2) := by decide +kernel
theorem dL_found_157 : decode cL_found 157 = .ok (.iload 16, 2) := by decide +kernel
theorem dL_found_159 : decode cL_found 159 = .ok (.ifCond .ge 7, 3) := by decide +kernel
theorem dL_found_162 : decode cL_found 162 = .ok (.lconst 0, 1) := by decide +kernel
theorem dL_found_163 : decode cL_found 163 = .ok (.goto 42, 3) := by decide +kernel
theorem dL_found_166 : decode cL_found 166 = .ok (.aload 14, 2) := by decide +kernel
theorem dL_found_168 : decode cL_found 168 = .ok (.iload 15, 2) := by decide +kernel
theorem dL_found_170 : decode cL_found 170 = .ok (.iaload, 1) := by decide +kernel
theorem dL_found_171 : decode cL_found 171 = .ok (.iconst 2, 1) := by decide +kernel
theorem dL_found_172 : decode cL_found 172 = .ok (.if_icmp .ne 25, 3) := by decide +kernel
theorem dL_found_175 : decode cL_found 175 = .ok (.aload_n 0, 1) := by decide +kernel
theorem dL_found_176 : decode cL_found 176 = .ok (.iload_n 1, 1) := by decide +kernel
theorem dL_found_177 : decode cL_found 177 = .ok (.invokestatic 138, 3) := by decide +kernel
theorem dL_found_180 : decode cL_found 180 = .ok (.i2l, 1) := by decide +kernel
theorem dL_found_181 : decode cL_found 181 = .ok (.aload_n 0, 1) := by decide +kernel
theorem dL_found_182 : decode cL_found 182 = .ok (.iload 16, 2) := by decide +kernel
theorem dL_found_184 : decode cL_found 184 = .ok (.iconst 4, 1) := by decide +kernel
theorem dL_found_185 : decode cL_found 185 = .ok (.invokestatic 54, 3) := by decide +kernel
theorem dL_found_188 : decode cL_found 188 = .ok (.i2l, 1) := by decide +kernel
theorem dL_found_189 : decode cL_found 189 = .ok (.lmul, 1) := by decide +kernel
theorem dL_found_190 : decode cL_found 190 = .ok (.ldc2_w 204, 3) := by decide +kernel
theorem dL_found_193 : decode cL_found 193 = .ok (.ldiv, 1) := by decide +kernel
theorem dL_found_194 : decode cL_found 194 = .ok (.goto 11, 3) := by decide +kernel
theorem dL_found_197 : decode cL_found 197 = .ok (.aload_n 0, 1) := by decide +kernel
theorem dL_found_198 : decode cL_found 198 = .ok (.iload 16, 2) := by decide +kernel
theorem dL_found_200 : decode cL_found 200 = .ok (.iconst 4, 1) := by decide +kernel
theorem dL_found_201 : decode cL_found 201 = .ok (.invokestatic 54, 3) := by decide +kernel
theorem dL_found_204 : decode cL_found 204 = .ok (.i2l, 1) := by decide +kernel
theorem dL_found_205 : decode cL_found 205 = .ok (.lastore, 1) := by decide +kernel
theorem dL_found_206 : decode cL_found 206 = .ok (.aload 11, 2) := by decide +kernel
theorem dL_found_208 : decode cL_found 208 = .ok (.iload 15, 2) := by decide +kernel
theorem dL_found_210 : decode cL_found 210 = .ok (.baload, 1) := by decide +kernel
theorem dL_found_211 : decode cL_found 211 = .ok (.ifCond .eq 6, 3) := by decide +kernel
theorem dL_found_214 : decode cL_found 214 = .ok (.goto 36, 3) := by decide +kernel
theorem dL_found_217 : decode cL_found 217 = .ok (.aload 8, 2) := by decide +kernel
theorem dL_found_219 : decode cL_found 219 = .ok (.getfield 206, 3) := by decide +kernel
theorem dL_found_222 : decode cL_found 222 = .ok (.iload 15, 2) := by decide +kernel
theorem dL_found_224 : decode cL_found 224 = .ok (.aload 4, 2) := by decide +kernel
theorem dL_found_226 : decode cL_found 226 = .ok (.iload 15, 2) := by decide +kernel
theorem dL_found_228 : decode cL_found 228 = .ok (.iaload, 1) := by decide +kernel
theorem dL_found_229 : decode cL_found 229 = .ok (.iastore, 1) := by decide +kernel
theorem dL_found_230 : decode cL_found 230 = .ok (.aload 8, 2) := by decide +kernel
theorem dL_found_232 : decode cL_found 232 = .ok (.getfield 210, 3) := by decide +kernel
theorem dL_found_235 : decode cL_found 235 = .ok (.iload 15, 2) := by decide +kernel
theorem dL_found_237 : decode cL_found 237 = .ok (.iconst 5, 1) := by decide +kernel
theorem dL_found_238 : decode cL_found 238 = .ok (.iastore, 1) := by decide +kernel
theorem dL_found_239 : decode cL_found 239 = .ok (.lload 9, 2) := by decide +kernel
theorem dL_found_241 : decode cL_found 241 = .ok (.aload 4, 2) := by decide +kernel
theorem dL_found_243 : decode cL_found 243 = .ok (.iload 15, 2) := by decide +kernel
theorem dL_found_245 : decode cL_found 245 = .ok (.iaload, 1) := by decide +kernel
theorem dL_found_246 : decode cL_found 246 = .ok (.i2l, 1) := by decide +kernel
theorem dL_found_247 : decode cL_found 247 = .ok (.lsub, 1) := by decide +kernel
theorem dL_found_248 : decode cL_found 248 = .ok (.lstore 9, 2) := by decide +kernel
theorem dL_found_250 : decode cL_found 250 = .ok (.iinc 15 1, 3) := by decide +kernel
theorem dL_found_253 : decode cL_found 253 = .ok (.goto (-203), 3) := by decide +kernel
theorem dL_found_256 : decode cL_found 256 = .ok (.aload 8, 2) := by decide +kernel
theorem dL_found_258 : decode cL_found 258 = .ok (.lload 9, 2) := by decide +kernel
theorem dL_found_260 : decode cL_found 260 = .ok (.aload 11, 2) := by decide +kernel
theorem dL_found_262 : decode cL_found 262 = .ok (.aload 12, 2) := by decide +kernel
theorem dL_found_264 : decode cL_found 264 = .ok (.aload 13, 2) := by decide +kernel
theorem dL_found_266 : decode cL_found 266 = .ok (.aload 14, 2) := by decide +kernel
theorem dL_found_268 : decode cL_found 268 = .ok (.invokestatic 213, 3) := by decide +kernel
theorem dL_found_271 : decode cL_found 271 = .ok (.aload 8, 2) := by decide +kernel
theorem dL_found_273 : decode cL_found 273 = .ok (.aload 11, 2) := by decide +kernel
theorem dL_found_275 : decode cL_found 275 = .ok (.lload 9, 2) := by decide +kernel
theorem dL_found_277 : decode cL_found 277 = .ok (.invokevirtual 217, 3) := by decide +kernel
theorem dL_found_280 : decode cL_found 280 = .ok (.aload 8, 2) := by decide +kernel
theorem dL_found_282 : decode cL_found 282 = .ok (.areturn, 1) := by decide +kernel
theorem dL_works_0 : decode cL_works 0 = .ok (.aload_n 3, 1) := by decide +kernel
theorem dL_works_1 : decode cL_works 1 = .ok (.arraylength, 1) := by decide +kernel
theorem dL_works_2 : decode cL_works 2 = .ok (.istore 7, 2) := by decide +kernel
theorem dL_works_4 : decode cL_works 4 = .ok (.iload 7, 2) := by decide +kernel
theorem dL_works_6 : decode cL_works 6 = .ok (.newarray .boolean, 2) := by decide +kernel
theorem dL_works_8 : decode cL_works 8 = .ok (.astore 8, 2) := by decide +kernel
theorem dL_works_10 : decode cL_works 10 = .ok (.iload 7, 2) := by decide +kernel
theorem dL_works_12 : decode cL_works 12 = .ok (.newarray .boolean, 2) := by decide +kernel
theorem dL_works_14 : decode cL_works 14 = .ok (.astore 9, 2) := by decide +kernel
theorem dL_works_16 : decode cL_works 16 = .ok (.lload_n 1, 1) := by decide +kernel
theorem dL_works_17 : decode cL_works 17 = .ok (.lstore 10, 2) := by decide +kernel
theorem dL_works_19 : decode cL_works 19 = .ok (.lconst 0, 1) := by decide +kernel
theorem dL_works_20 : decode cL_works 20 = .ok (.lstore 12, 2) := by decide +kernel
theorem dL_works_22 : decode cL_works 22 = .ok (.iconst 0, 1) := by decide +kernel
theorem dL_works_23 : decode cL_works 23 = .ok (.istore 14, 2) := by decide +kernel
theorem dL_works_25 : decode cL_works 25 = .ok (.iload 14, 2) := by decide +kernel
theorem dL_works_27 : decode cL_works 27 = .ok (.iload 7, 2) := by decide +kernel
theorem dL_works_29 : decode cL_works 29 = .ok (.if_icmp .ge 111, 3) := by decide +kernel
theorem dL_works_32 : decode cL_works 32 = .ok (.aload 8, 2) := by decide +kernel
theorem dL_works_34 : decode cL_works 34 = .ok (.iload 14, 2) := by decide +kernel
theorem dL_works_36 : decode cL_works 36 = .ok (.aload_n 3, 1) := by decide +kernel
theorem dL_works_37 : decode cL_works 37 = .ok (.iload 14, 2) := by decide +kernel
theorem dL_works_39 : decode cL_works 39 = .ok (.baload, 1) := by decide +kernel
theorem dL_works_40 : decode cL_works 40 = .ok (.ifCond .eq 25, 3) := by decide +kernel
theorem dL_works_43 : decode cL_works 43 = .ok (.aload 6, 2) := by decide +kernel
theorem dL_works_45 : decode cL_works 45 = .ok (.iload 14, 2) := by decide +kernel
theorem dL_works_47 : decode cL_works 47 = .ok (.iaload, 1) := by decide +kernel
theorem dL_works_48 : decode cL_works 48 = .ok (.iconst 1, 1) := by decide +kernel
theorem dL_works_49 : decode cL_works 49 = .ok (.if_icmp .eq 12, 3) := by decide +kernel
theorem dL_works_52 : decode cL_works 52 = .ok (.aload 6, 2) := by decide +kernel
theorem dL_works_54 : decode cL_works 54 = .ok (.iload 14, 2) := by decide +kernel
theorem dL_works_56 : decode cL_works 56 = .ok (.iaload, 1) := by decide +kernel
theorem dL_works_57 : decode cL_works 57 = .ok (.iconst 2, 1) := by decide +kernel
theorem dL_works_58 : decode cL_works 58 = .ok (.if_icmp .ne 7, 3) := by decide +kernel
theorem dL_works_61 : decode cL_works 61 = .ok (.iconst 1, 1) := by decide +kernel
theorem dL_works_62 : decode cL_works 62 = .ok (.goto 4, 3) := by decide +kernel
theorem dL_works_65 : decode cL_works 65 = .ok (.iconst 0, 1) := by decide +kernel
theorem dL_works_66 : decode cL_works 66 = .ok (.bastore, 1) := by decide +kernel
theorem dL_works_67 : decode cL_works 67 = .ok (.aload 9, 2) := by decide +kernel
theorem dL_works_69 : decode cL_works 69 = .ok (.iload 14, 2) := by decide +kernel
theorem dL_works_71 : decode cL_works 71 = .ok (.aload_n 3, 1) := by decide +kernel
theorem dL_works_72 : decode cL_works 72 = .ok (.iload 14, 2) := by decide +kernel
theorem dL_works_74 : decode cL_works 74 = .ok (.baload, 1) := by decide +kernel
theorem dL_works_75 : decode cL_works 75 = .ok (.ifCond .eq 15, 3) := by decide +kernel
theorem dL_works_78 : decode cL_works 78 = .ok (.aload 8, 2) := by decide +kernel
theorem dL_works_80 : decode cL_works 80 = .ok (.iload 14, 2) := by decide +kernel
theorem dL_works_82 : decode cL_works 82 = .ok (.baload, 1) := by decide +kernel
theorem dL_works_83 : decode cL_works 83 = .ok (.ifCond .ne 7, 3) := by decide +kernel
theorem dL_works_86 : decode cL_works 86 = .ok (.iconst 1, 1) := by decide +kernel
theorem dL_works_87 : decode cL_works 87 = .ok (.goto 4, 3) := by decide +kernel
theorem dL_works_90 : decode cL_works 90 = .ok (.iconst 0, 1) := by decide +kernel
theorem dL_works_91 : decode cL_works 91 = .ok (.bastore, 1) := by decide +kernel
theorem dL_works_92 : decode cL_works 92 = .ok (.lload 12, 2) := by decide +kernel
theorem dL_works_94 : decode cL_works 94 = .ok (.aload 8, 2) := by decide +kernel
theorem dL_works_96 : decode cL_works 96 = .ok (.iload 14, 2) := by decide +kernel
theorem dL_works_98 : decode cL_works 98 = .ok (.baload, 1) := by decide +kernel
theorem dL_works_99 : decode cL_works 99 = .ok (.ifCond .eq 11, 3) := by decide +kernel
theorem dL_works_102 : decode cL_works 102 = .ok (.aload 5, 2) := by decide +kernel
theorem dL_works_104 : decode cL_works 104 = .ok (.iload 14, 2) := by decide +kernel
theorem dL_works_106 : decode cL_works 106 = .ok (.laload, 1) := by decide +kernel
theorem dL_works_107 : decode cL_works 107 = .ok (.goto 4, 3) := by decide +kernel
theorem dL_works_110 : decode cL_works 110 = .ok (.lconst 0, 1) := by decide +kernel
theorem dL_works_111 : decode cL_works 111 = .ok (.ladd, 1) := by decide +kernel
theorem dL_works_112 : decode cL_works 112 = .ok (.lstore 12, 2) := by decide +kernel
theorem dL_works_114 : decode cL_works 114 = .ok (.aload 8, 2) := by decide +kernel
theorem dL_works_116 : decode cL_works 116 = .ok (.iload 14, 2) := by decide +kernel
theorem dL_works_118 : decode cL_works 118 = .ok (.baload, 1) := by decide +kernel
theorem dL_works_119 : decode cL_works 119 = .ok (.ifCond .eq 15, 3) := by decide +kernel
theorem dL_works_122 : decode cL_works 122 = .ok (.aload_n 0, 1) := by decide +kernel
theorem dL_works_123 : decode cL_works 123 = .ok (.getfield 210, 3) := by decide +kernel
theorem dL_works_126 : decode cL_works 126 = .ok (.iload 14, 2) := by decide +kernel
theorem dL_works_128 : decode cL_works 128 = .ok (.aload 6, 2) := by decide +kernel
theorem dL_works_130 : decode cL_works 130 = .ok (.iload 14, 2) := by decide +kernel
theorem dL_works_132 : decode cL_works 132 = .ok (.iaload, 1) := by decide +kernel
theorem dL_works_133 : decode cL_works 133 = .ok (.iastore, 1) := by decide +kernel
theorem dL_works_134 : decode cL_works 134 = .ok (.iinc 14 1, 3) := by decide +kernel
theorem dL_works_137 : decode cL_works 137 = .ok (.goto (-112), 3) := by decide +kernel
theorem dL_works_140 : decode cL_works 140 = .ok (.lload 12, 2) := by decide +kernel
theorem dL_works_142 : decode cL_works 142 = .ok (.lload 10, 2) := by decide +kernel
theorem dL_works_144 : decode cL_works 144 = .ok (.lcmp, 1) := by decide +kernel
theorem dL_works_145 : decode cL_works 145 = .ok (.ifCond .le 14, 3) := by decide +kernel
theorem dL_works_148 : decode cL_works 148 = .ok (.aload_n 0, 1) := by decide +kernel
theorem dL_works_149 : decode cL_works 149 = .ok (.lload 10, 2) := by decide +kernel
theorem dL_works_151 : decode cL_works 151 = .ok (.aload 5, 2) := by decide +kernel
theorem dL_works_153 : decode cL_works 153 = .ok (.aload 8, 2) := by decide +kernel
theorem dL_works_155 : decode cL_works 155 = .ok (.invokevirtual 221, 3) := by decide +kernel
theorem dL_works_158 : decode cL_works 158 = .ok (.return_, 1) := by decide +kernel
theorem dL_works_159 : decode cL_works 159 = .ok (.lload 10, 2) := by decide +kernel
theorem dL_works_161 : decode cL_works 161 = .ok (.lload 12, 2) := by decide +kernel
theorem dL_works_163 : decode cL_works 163 = .ok (.lsub, 1) := by decide +kernel
theorem dL_works_164 : decode cL_works 164 = .ok (.lstore 10, 2) := by decide +kernel
theorem dL_works_166 : decode cL_works 166 = .ok (.iconst 0, 1) := by decide +kernel
theorem dL_works_167 : decode cL_works 167 = .ok (.istore 14, 2) := by decide +kernel
theorem dL_works_169 : decode cL_works 169 = .ok (.iload 14, 2) := by decide +kernel
theorem dL_works_171 : decode cL_works 171 = .ok (.iload 7, 2) := by decide +kernel
theorem dL_works_173 : decode cL_works 173 = .ok (.if_icmp .ge 33, 3) := by decide +kernel
theorem dL_works_176 : decode cL_works 176 = .ok (.aload_n 0, 1) := by decide +kernel
theorem dL_works_177 : decode cL_works 177 = .ok (.getfield 225, 3) := by decide +kernel
theorem dL_works_180 : decode cL_works 180 = .ok (.iload 14, 2) := by decide +kernel
theorem dL_works_182 : decode cL_works 182 = .ok (.aload 8, 2) := by decide +kernel
theorem dL_works_184 : decode cL_works 184 = .ok (.iload 14, 2) := by decide +kernel
theorem dL_works_186 : decode cL_works 186 = .ok (.baload, 1) := by decide +kernel
theorem dL_works_187 : decode cL_works 187 = .ok (.ifCond .eq 11, 3) := by decide +kernel
theorem dL_works_190 : decode cL_works 190 = .ok (.aload 5, 2) := by decide +kernel
theorem dL_works_192 : decode cL_works 192 = .ok (.iload 14, 2) := by decide +kernel
theorem dL_works_194 : decode cL_works 194 = .ok (.laload, 1) := by decide +kernel
theorem dL_works_195 : decode cL_works 195 = .ok (.goto 4, 3) := by decide +kernel
theorem dL_works_198 : decode cL_works 198 = .ok (.lconst 0, 1) := by decide +kernel
theorem dL_works_199 : decode cL_works 199 = .ok (.lastore, 1) := by decide +kernel
theorem dL_works_200 : decode cL_works 200 = .ok (.iinc 14 1, 3) := by decide +kernel
theorem dL_works_203 : decode cL_works 203 = .ok (.goto (-34), 3) := by decide +kernel
theorem dL_works_206 : decode cL_works 206 = .ok (.aload 9, 2) := by decide +kernel
theorem dL_works_208 : decode cL_works 208 = .ok (.invokestatic 229, 3) := by decide +kernel
theorem dL_works_211 : decode cL_works 211 = .ok (.ifCond .ne 22, 3) := by decide +kernel
theorem dL_works_214 : decode cL_works 214 = .ok (.aload 8, 2) := by decide +kernel
theorem dL_works_216 : decode cL_works 216 = .ok (.invokestatic 229, 3) := by decide +kernel
theorem dL_works_219 : decode cL_works 219 = .ok (.ifCond .le 13, 3) := by decide +kernel
theorem dL_works_222 : decode cL_works 222 = .ok (.aload_n 0, 1) := by decide +kernel
theorem dL_works_223 : decode cL_works 223 = .ok (.lload 10, 2) := by decide +kernel
theorem dL_works_225 : decode cL_works 225 = .ok (.aload 4, 2) := by decide +kernel
theorem dL_works_227 : decode cL_works 227 = .ok (.aload 8, 2) := by decide +kernel
theorem dL_works_229 : decode cL_works 229 = .ok (.invokevirtual 221, 3) := by decide +kernel
theorem dL_works_232 : decode cL_works 232 = .ok (.return_, 1) := by decide +kernel
theorem dL_works_233 : decode cL_works 233 = .ok (.iconst 3, 1) := by decide +kernel
theorem dL_works_234 : decode cL_works 234 = .ok (.istore 14, 2) := by decide +kernel
theorem dL_works_236 : decode cL_works 236 = .ok (.iload 14, 2) := by decide +kernel
theorem dL_works_238 : decode cL_works 238 = .ok (.iconst 4, 1) := by decide +kernel
theorem dL_works_239 : decode cL_works 239 = .ok (.if_icmp .gt 355, 3) := by decide +kernel
theorem dL_works_242 : decode cL_works 242 = .ok (.iload 7, 2) := by decide +kernel
theorem dL_works_244 : decode cL_works 244 = .ok (.newarray .boolean, 2) := by decide +kernel
theorem dL_works_246 : decode cL_works 246 = .ok (.astore 15, 2) := by decide +kernel
theorem dL_works_248 : decode cL_works 248 = .ok (.aload 9, 2) := by decide +kernel
theorem dL_works_250 : decode cL_works 250 = .ok (.invokestatic 229, 3) := by decide +kernel
theorem dL_works_253 : decode cL_works 253 = .ok (.ifCond .le 306, 3) := by decide +kernel
theorem dL_works_256 : decode cL_works 256 = .ok (.lconst 0, 1) := by decide +kernel
theorem dL_works_257 : decode cL_works 257 = .ok (.lstore 16, 2) := by decide +kernel
theorem dL_works_259 : decode cL_works 259 = .ok (.iconst 0, 1) := by decide +kernel
theorem dL_works_260 : decode cL_works 260 = .ok (.istore 18, 2) := by decide +kernel
theorem dL_works_262 : decode cL_works 262 = .ok (.iload 18, 2) := by decide +kernel
theorem dL_works_264 : decode cL_works 264 = .ok (.iload 7, 2) := by decide +kernel
theorem dL_works_266 : decode cL_works 266 = .ok (.if_icmp .ge 31, 3) := by decide +kernel
theorem dL_works_269 : decode cL_works 269 = .ok (.lload 16, 2) := by decide +kernel
theorem dL_works_271 : decode cL_works 271 = .ok (.aload 9, 2) := by decide +kernel
theorem dL_works_273 : decode cL_works 273 = .ok (.iload 18, 2) := by decide +kernel
theorem dL_works_275 : decode cL_works 275 = .ok (.baload, 1) := by decide +kernel
theorem dL_works_276 : decode cL_works 276 = .ok (.ifCond .eq 11, 3) := by decide +kernel
theorem dL_works_279 : decode cL_works 279 = .ok (.aload 4, 2) := by decide +kernel
theorem dL_works_281 : decode cL_works 281 = .ok (.iload 18, 2) := by decide +kernel
theorem dL_works_283 : decode cL_works 283 = .ok (.laload, 1) := by decide +kernel
theorem dL_works_284 : decode cL_works 284 = .ok (.goto 4, 3) := by decide +kernel
theorem dL_works_287 : decode cL_works 287 = .ok (.lconst 0, 1) := by decide +kernel
theorem dL_works_288 : decode cL_works 288 = .ok (.ladd, 1) := by decide +kernel
theorem dL_works_289 : decode cL_works 289 = .ok (.lstore 16, 2) := by decide +kernel
theorem dL_works_291 : decode cL_works 291 = .ok (.iinc 18 1, 3) := by decide +kernel
theorem dL_works_294 : decode cL_works 294 = .ok (.goto (-32), 3) := by decide +kernel
theorem dL_works_297 : decode cL_works 297 = .ok (.iload 7, 2) := by decide +kernel
theorem dL_works_299 : decode cL_works 299 = .ok (.newarray .boolean, 2) := by decide +kernel
theorem dL_works_301 : decode cL_works 301 = .ok (.astore 18, 2) := by decide +kernel
theorem dL_works_303 : decode cL_works 303 = .ok (.lconst 0, 1) := by decide +kernel
theorem dL_works_304 : decode cL_works 304 = .ok (.lstore 19, 2) := by decide +kernel
theorem dL_works_306 : decode cL_works 306 = .ok (.iconst 0, 1) := by decide +kernel
theorem dL_works_307 : decode cL_works 307 = .ok (.istore 21, 2) := by decide +kernel
theorem dL_works_309 : decode cL_works 309 = .ok (.iload 21, 2) := by decide +kernel
theorem dL_works_311 : decode cL_works 311 = .ok (.iload 7, 2) := by decide +kernel
theorem dL_works_313 : decode cL_works 313 = .ok (.if_icmp .ge 106, 3) := by decide +kernel
theorem dL_works_316 : decode cL_works 316 = .ok (.lload 10, 2) := by decide +kernel
theorem dL_works_318 : decode cL_works 318 = .ok (.aload 4, 2) := by decide +kernel
theorem dL_works_320 : decode cL_works 320 = .ok (.iload 21, 2) := by decide +kernel
theorem dL_works_322 : decode cL_works 322 = .ok (.laload, 1) := by decide +kernel
theorem dL_works_323 : decode cL_works 323 = .ok (.lmul, 1) := by decide +kernel
theorem dL_works_324 : decode cL_works 324 = .ok (.lstore 22, 2) := by decide +kernel
theorem dL_works_326 : decode cL_works 326 = .ok (.aload 18, 2) := by decide +kernel
theorem dL_works_328 : decode cL_works 328 = .ok (.iload 21, 2) := by decide +kernel
theorem dL_works_330 : decode cL_works 330 = .ok (.aload 9, 2) := by decide +kernel
theorem dL_works_332 : decode cL_works 332 = .ok (.iload 21, 2) := by decide +kernel
theorem dL_works_334 : decode cL_works 334 = .ok (.baload, 1) := by decide +kernel
theorem dL_works_335 : decode cL_works 335 = .ok (.ifCond .eq 54, 3) := by decide +kernel
theorem dL_works_338 : decode cL_works 338 = .ok (.aload 6, 2) := by decide +kernel
theorem dL_works_340 : decode cL_works 340 = .ok (.iload 21, 2) := by decide +kernel
theorem dL_works_342 : decode cL_works 342 = .ok (.iaload, 1) := by decide +kernel
theorem dL_works_343 : decode cL_works 343 = .ok (.iload 14, 2) := by decide +kernel
theorem dL_works_345 : decode cL_works 345 = .ok (.if_icmp .ne 44, 3) := by decide +kernel
theorem dL_works_348 : decode cL_works 348 = .ok (.iload 14, 2) := by decide +kernel
theorem dL_works_350 : decode cL_works 350 = .ok (.iconst 3, 1) := by decide +kernel
theorem dL_works_351 : decode cL_works 351 = .ok (.if_icmp .ne 20, 3) := by decide +kernel
theorem dL_works_354 : decode cL_works 354 = .ok (.lload 22, 2) := by decide +kernel
theorem dL_works_356 : decode cL_works 356 = .ok (.aload 5, 2) := by decide +kernel
theorem dL_works_358 : decode cL_works 358 = .ok (.iload 21, 2) := by decide +kernel
theorem dL_works_360 : decode cL_works 360 = .ok (.laload, 1) := by decide +kernel
theorem dL_works_361 : decode cL_works 361 = .ok (.lload 16, 2) := by decide +kernel
theorem dL_works_363 : decode cL_works 363 = .ok (.lmul, 1) := by decide +kernel
theorem dL_works_364 : decode cL_works 364 = .ok (.lcmp, 1) := by decide +kernel
theorem dL_works_365 : decode cL_works 365 = .ok (.ifCond .ge 24, 3) := by decide +kernel
theorem dL_works_368 : decode cL_works 368 = .ok (.goto 17, 3) := by decide +kernel
theorem dL_works_371 : decode cL_works 371 = .ok (.lload 22, 2) := by decide +kernel
theorem dL_works_373 : decode cL_works 373 = .ok (.aload 5, 2) := by decide +kernel
theorem dL_works_375 : decode cL_works 375 = .ok (.iload 21, 2) := by decide +kernel
theorem dL_works_377 : decode cL_works 377 = .ok (.laload, 1) := by decide +kernel
theorem dL_works_378 : decode cL_works 378 = .ok (.lload 16, 2) := by decide +kernel
theorem dL_works_380 : decode cL_works 380 = .ok (.lmul, 1) := by decide +kernel
theorem dL_works_381 : decode cL_works 381 = .ok (.lcmp, 1) := by decide +kernel
theorem dL_works_382 : decode cL_works 382 = .ok (.ifCond .le 7, 3) := by decide +kernel
theorem dL_works_385 : decode cL_works 385 = .ok (.iconst 1, 1) := by decide +kernel
theorem dL_works_386 : decode cL_works 386 = .ok (.goto 4, 3) := by decide +kernel
theorem dL_works_389 : decode cL_works 389 = .ok (.iconst 0, 1) := by decide +kernel
theorem dL_works_390 : decode cL_works 390 = .ok (.bastore, 1) := by decide +kernel
theorem dL_works_391 : decode cL_works 391 = .ok (.lload 19, 2) := by decide +kernel
theorem dL_works_393 : decode cL_works 393 = .ok (.aload 18, 2) := by decide +kernel
theorem dL_works_395 : decode cL_works 395 = .ok (.iload 21, 2) := by decide +kernel
theorem dL_works_397 : decode cL_works 397 = .ok (.baload, 1) := by decide +kernel
theorem dL_works_398 : decode cL_works 398 = .ok (.ifCond .eq 11, 3) := by decide +kernel
theorem dL_works_401 : decode cL_works 401 = .ok (.aload 5, 2) := by decide +kernel
theorem dL_works_403 : decode cL_works 403 = .ok (.iload 21, 2) := by decide +kernel
theorem dL_works_405 : decode cL_works 405 = .ok (.laload, 1) := by decide +kernel
theorem dL_works_406 : decode cL_works 406 = .ok (.goto 4, 3) := by decide +kernel
theorem dL_works_409 : decode cL_works 409 = .ok (.lconst 0, 1) := by decide +kernel
theorem dL_works_410 : decode cL_works 410 = .ok (.ladd, 1) := by decide +kernel
theorem dL_works_411 : decode cL_works 411 = .ok (.lstore 19, 2) := by decide +kernel
theorem dL_works_413 : decode cL_works 413 = .ok (.iinc 21 1, 3) := by decide +kernel
theorem dL_works_416 : decode cL_works 416 = .ok (.goto (-107), 3) := by decide +kernel
theorem dL_works_419 : decode cL_works 419 = .ok (.aload 18, 2) := by decide +kernel
theorem dL_works_421 : decode cL_works 421 = .ok (.invokestatic 229, 3) := by decide +kernel
theorem dL_works_424 : decode cL_works 424 = .ok (.ifCond .ne 6, 3) := by decide +kernel
theorem dL_works_427 : decode cL_works 427 = .ok (.goto 132, 3) := by decide +kernel
theorem dL_works_430 : decode cL_works 430 = .ok (.aload_n 0, 1) := by decide +kernel
theorem dL_works_431 : decode cL_works 431 = .ok (.dup, 1) := by decide +kernel
theorem dL_works_432 : decode cL_works 432 = .ok (.getfield 233, 3) := by decide +kernel
theorem dL_works_435 : decode cL_works 435 = .ok (.iconst 1, 1) := by decide +kernel
theorem dL_works_436 : decode cL_works 436 = .ok (.iadd, 1) := by decide +kernel
theorem dL_works_437 : decode cL_works 437 = .ok (.putfield 233, 3) := by decide +kernel
theorem dL_works_440 : decode cL_works 440 = .ok (.iconst 0, 1) := by decide +kernel
theorem dL_works_441 : decode cL_works 441 = .ok (.istore 21, 2) := by decide +kernel
theorem dL_works_443 : decode cL_works 443 = .ok (.iload 21, 2) := by decide +kernel
theorem dL_works_445 : decode cL_works 445 = .ok (.iload 7, 2) := by decide +kernel
theorem dL_works_447 : decode cL_works 447 = .ok (.if_icmp .ge 26, 3) := by decide +kernel
theorem dL_works_450 : decode cL_works 450 = .ok (.aload 18, 2) := by decide +kernel
theorem dL_works_452 : decode cL_works 452 = .ok (.iload 21, 2) := by decide +kernel
theorem dL_works_454 : decode cL_works 454 = .ok (.baload, 1) := by decide +kernel
theorem dL_works_455 : decode cL_works 455 = .ok (.ifCond .eq 12, 3) := by decide +kernel
theorem dL_works_458 : decode cL_works 458 = .ok (.aload_n 0, 1) := by decide +kernel
theorem dL_works_459 : decode cL_works 459 = .ok (.getfield 210, 3) := by decide +kernel
theorem dL_works_462 : decode cL_works 462 = .ok (.iload 21, 2) := by decide +kernel
theorem dL_works_464 : decode cL_works 464 = .ok (.iload 14, 2) := by decide +kernel
theorem dL_works_466 : decode cL_works 466 = .ok (.iastore, 1) := by decide +kernel
theorem dL_works_467 : decode cL_works 467 = .ok (.iinc 21 1, 3) := by decide +kernel
theorem dL_works_470 : decode cL_works 470 = .ok (.goto (-27), 3) := by decide +kernel
theorem dL_works_473 : decode cL_works 473 = .ok (.iload 14, 2) := by decide +kernel
theorem dL_works_475 : decode cL_works 475 = .ok (.iconst 3, 1) := by decide +kernel
theorem dL_works_476 : decode cL_works 476 = .ok (.if_icmp .ne 22, 3) := by decide +kernel
theorem dL_works_479 : decode cL_works 479 = .ok (.lload 19, 2) := by decide +kernel
theorem dL_works_481 : decode cL_works 481 = .ok (.lload 10, 2) := by decide +kernel
theorem dL_works_483 : decode cL_works 483 = .ok (.lcmp, 1) := by decide +kernel
theorem dL_works_484 : decode cL_works 484 = .ok (.ifCond .le 14, 3) := by decide +kernel
theorem dL_works_487 : decode cL_works 487 = .ok (.aload_n 0, 1) := by decide +kernel
theorem dL_works_488 : decode cL_works 488 = .ok (.lload 10, 2) := by decide +kernel
theorem dL_works_490 : decode cL_works 490 = .ok (.aload 5, 2) := by decide +kernel
theorem dL_works_492 : decode cL_works 492 = .ok (.aload 18, 2) := by decide +kernel
theorem dL_works_494 : decode cL_works 494 = .ok (.invokevirtual 221, 3) := by decide +kernel
theorem dL_works_497 : decode cL_works 497 = .ok (.return_, 1) := by decide +kernel
theorem dL_works_498 : decode cL_works 498 = .ok (.iconst 0, 1) := by decide +kernel
theorem dL_works_499 : decode cL_works 499 = .ok (.istore 21, 2) := by decide +kernel
theorem dL_works_501 : decode cL_works 501 = .ok (.iload 21, 2) := by decide +kernel
theorem dL_works_503 : decode cL_works 503 = .ok (.iload 7, 2) := by decide +kernel
theorem dL_works_505 : decode cL_works 505 = .ok (.if_icmp .ge 44, 3) := by decide +kernel
theorem dL_works_508 : decode cL_works 508 = .ok (.aload 18, 2) := by decide +kernel
theorem dL_works_510 : decode cL_works 510 = .ok (.iload 21, 2) := by decide +kernel
theorem dL_works_512 : decode cL_works 512 = .ok (.baload, 1) := by decide +kernel
theorem dL_works_513 : decode cL_works 513 = .ok (.ifCond .ne 6, 3) := by decide +kernel
theorem dL_works_516 : decode cL_works 516 = .ok (.goto 27, 3) := by decide +kernel
theorem dL_works_519 : decode cL_works 519 = .ok (.aload_n 0, 1) := by decide +kernel
theorem dL_works_520 : decode cL_works 520 = .ok (.getfield 225, 3) := by decide +kernel
theorem dL_works_523 : decode cL_works 523 = .ok (.iload 21, 2) := by decide +kernel
theorem dL_works_525 : decode cL_works 525 = .ok (.aload 5, 2) := by decide +kernel
theorem dL_works_527 : decode cL_works 527 = .ok (.iload 21, 2) := by decide +kernel
theorem dL_works_529 : decode cL_works 529 = .ok (.laload, 1) := by decide +kernel
theorem dL_works_530 : decode cL_works 530 = .ok (.lastore, 1) := by decide +kernel
theorem dL_works_531 : decode cL_works 531 = .ok (.aload 9, 2) := by decide +kernel
theorem dL_works_533 : decode cL_works 533 = .ok (.iload 21, 2) := by decide +kernel
theorem dL_works_535 : decode cL_works 535 = .ok (.iconst 0, 1) := by decide +kernel
theorem dL_works_536 : decode cL_works 536 = .ok (.bastore, 1) := by decide +kernel
theorem dL_works_537 : decode cL_works 537 = .ok (.aload 15, 2) := by decide +kernel
theorem dL_works_539 : decode cL_works 539 = .ok (.iload 21, 2) := by decide +kernel
theorem dL_works_541 : decode cL_works 541 = .ok (.iconst 1, 1) := by decide +kernel
theorem dL_works_542 : decode cL_works 542 = .ok (.bastore, 1) := by decide +kernel
theorem dL_works_543 : decode cL_works 543 = .ok (.iinc 21 1, 3) := by decide +kernel
theorem dL_works_546 : decode cL_works 546 = .ok (.goto (-45), 3) := by decide +kernel
theorem dL_works_549 : decode cL_works 549 = .ok (.lload 10, 2) := by decide +kernel
theorem dL_works_551 : decode cL_works 551 = .ok (.lload 19, 2) := by decide +kernel
theorem dL_works_553 : decode cL_works 553 = .ok (.lsub, 1) := by decide +kernel
theorem dL_works_554 : decode cL_works 554 = .ok (.lstore 10, 2) := by decide +kernel
theorem dL_works_556 : decode cL_works 556 = .ok (.goto (-308), 3) := by decide +kernel
theorem dL_works_559 : decode cL_works 559 = .ok (.iload 14, 2) := by decide +kernel
theorem dL_works_561 : decode cL_works 561 = .ok (.iconst 4, 1) := by decide +kernel
theorem dL_works_562 : decode cL_works 562 = .ok (.if_icmp .ne 26, 3) := by decide +kernel
theorem dL_works_565 : decode cL_works 565 = .ok (.aload_n 0, 1) := by decide +kernel
theorem dL_works_566 : decode cL_works 566 = .ok (.lload 10, 2) := by decide +kernel
theorem dL_works_568 : decode cL_works 568 = .ok (.aload 4, 2) := by decide +kernel
theorem dL_works_570 : decode cL_works 570 = .ok (.aload 9, 2) := by decide +kernel
theorem dL_works_572 : decode cL_works 572 = .ok (.invokestatic 229, 3) := by decide +kernel
theorem dL_works_575 : decode cL_works 575 = .ok (.ifCond .ne 8, 3) := by decide +kernel
theorem dL_works_578 : decode cL_works 578 = .ok (.aload 15, 2) := by decide +kernel
theorem dL_works_580 : decode cL_works 580 = .ok (.goto 5, 3) := by decide +kernel
theorem dL_works_583 : decode cL_works 583 = .ok (.aload 9, 2) := by decide +kernel
theorem dL_works_585 : decode cL_works 585 = .ok (.invokevirtual 221, 3) := by decide +kernel
theorem dL_works_588 : decode cL_works 588 = .ok (.iinc 14 1, 3) := by decide +kernel
theorem dL_works_591 : decode cL_works 591 = .ok (.goto (-355), 3) := by decide +kernel
theorem dL_works_594 : decode cL_works 594 = .ok (.return_, 1) := by decide +kernel
theorem dL_isLike_0 : decode cL_isLike 0 = .ok (.iconst 0, 1) := by decide +kernel
theorem dL_isLike_1 : decode cL_isLike 1 = .ok (.istore_n 3, 1) := by decide +kernel
theorem dL_isLike_2 : decode cL_isLike 2 = .ok (.iconst 0, 1) := by decide +kernel
theorem dL_isLike_3 : decode cL_isLike 3 = .ok (.istore 4, 2) := by decide +kernel
theorem dL_isLike_5 : decode cL_isLike 5 = .ok (.iload 4, 2) := by decide +kernel
theorem dL_isLike_7 : decode cL_isLike 7 = .ok (.aload_n 2, 1) := by decide +kernel
theorem dL_isLike_8 : decode cL_isLike 8 = .ok (.getfield 206, 3) := by decide +kernel
theorem dL_isLike_11 : decode cL_isLike 11 = .ok (.arraylength, 1) := by decide +kernel
theorem dL_isLike_12 : decode cL_isLike 12 = .ok (.if_icmp .ge 57, 3) := by decide +kernel
theorem dL_isLike_15 : decode cL_isLike 15 = .ok (.aload_n 0, 1) := by decide +kernel
theorem dL_isLike_16 : decode cL_isLike 16 = .ok (.iload_n 1, 1) := by decide +kernel
theorem dL_isLike_17 : decode cL_isLike 17 = .ok (.iload 4, 2) := by decide +kernel
theorem dL_isLike_19 : decode cL_isLike 19 = .ok (.invokevirtual 237, 3) := by decide +kernel
theorem dL_isLike_22 : decode cL_isLike 22 = .ok (.aload_n 2, 1) := by decide +kernel
theorem dL_isLike_23 : decode cL_isLike 23 = .ok (.getfield 206, 3) := by decide +kernel
theorem dL_isLike_26 : decode cL_isLike 26 = .ok (.iload 4, 2) := by decide +kernel
theorem dL_isLike_28 : decode cL_isLike 28 = .ok (.iaload, 1) := by decide +kernel
theorem dL_isLike_29 : decode cL_isLike 29 = .ok (.if_icmp .ne 22, 3) := by decide +kernel
theorem dL_isLike_32 : decode cL_isLike 32 = .ok (.aload_n 0, 1) := by decide +kernel
theorem dL_isLike_33 : decode cL_isLike 33 = .ok (.iload_n 1, 1) := by decide +kernel
theorem dL_isLike_34 : decode cL_isLike 34 = .ok (.iload 4, 2) := by decide +kernel
theorem dL_isLike_36 : decode cL_isLike 36 = .ok (.bipush 6, 2) := by decide +kernel
theorem dL_isLike_38 : decode cL_isLike 38 = .ok (.invokevirtual 239, 3) := by decide +kernel
theorem dL_isLike_41 : decode cL_isLike 41 = .ok (.aload_n 2, 1) := by decide +kernel
theorem dL_isLike_42 : decode cL_isLike 42 = .ok (.getfield 210, 3) := by decide +kernel
theorem dL_isLike_45 : decode cL_isLike 45 = .ok (.iload 4, 2) := by decide +kernel
theorem dL_isLike_47 : decode cL_isLike 47 = .ok (.iaload, 1) := by decide +kernel
theorem dL_isLike_48 : decode cL_isLike 48 = .ok (.if_icmp .eq 5, 3) := by decide +kernel
theorem dL_isLike_51 : decode cL_isLike 51 = .ok (.iconst 0, 1) := by decide +kernel
theorem dL_isLike_52 : decode cL_isLike 52 = .ok (.ireturn, 1) := by decide +kernel
theorem dL_isLike_53 : decode cL_isLike 53 = .ok (.iload_n 3, 1) := by decide +kernel
theorem dL_isLike_54 : decode cL_isLike 54 = .ok (.aload_n 2, 1) := by decide +kernel
theorem dL_isLike_55 : decode cL_isLike 55 = .ok (.getfield 206, 3) := by decide +kernel
theorem dL_isLike_58 : decode cL_isLike 58 = .ok (.iload 4, 2) := by decide +kernel
theorem dL_isLike_60 : decode cL_isLike 60 = .ok (.iaload, 1) := by decide +kernel
theorem dL_isLike_61 : decode cL_isLike 61 = .ok (.iadd, 1) := by decide +kernel
theorem dL_isLike_62 : decode cL_isLike 62 = .ok (.istore_n 3, 1) := by decide +kernel
theorem dL_isLike_63 : decode cL_isLike 63 = .ok (.iinc 4 1, 3) := by decide +kernel
theorem dL_isLike_66 : decode cL_isLike 66 = .ok (.goto (-61), 3) := by decide +kernel
theorem dL_isLike_69 : decode cL_isLike 69 = .ok (.iload_n 3, 1) := by decide +kernel
theorem dL_isLike_70 : decode cL_isLike 70 = .ok (.aload_n 0, 1) := by decide +kernel
theorem dL_isLike_71 : decode cL_isLike 71 = .ok (.iload_n 1, 1) := by decide +kernel
theorem dL_isLike_72 : decode cL_isLike 72 = .ok (.iconst 0, 1) := by decide +kernel
theorem dL_isLike_73 : decode cL_isLike 73 = .ok (.invokevirtual 243, 3) := by decide +kernel
theorem dL_isLike_76 : decode cL_isLike 76 = .ok (.if_icmp .ne 31, 3) := by decide +kernel
theorem dL_isLike_79 : decode cL_isLike 79 = .ok (.aload_n 0, 1) := by decide +kernel
theorem dL_isLike_80 : decode cL_isLike 80 = .ok (.iload_n 1, 1) := by decide +kernel
theorem dL_isLike_81 : decode cL_isLike 81 = .ok (.invokevirtual 246, 3) := by decide +kernel
theorem dL_isLike_84 : decode cL_isLike 84 = .ok (.aload_n 2, 1) := by decide +kernel
theorem dL_isLike_85 : decode cL_isLike 85 = .ok (.getfield 233, 3) := by decide +kernel
theorem dL_isLike_88 : decode cL_isLike 88 = .ok (.if_icmp .ne 19, 3) := by decide +kernel
theorem dL_isLike_91 : decode cL_isLike 91 = .ok (.aload_n 0, 1) := by decide +kernel
theorem dL_isLike_92 : decode cL_isLike 92 = .ok (.iload_n 1, 1) := by decide +kernel
theorem dL_isLike_93 : decode cL_isLike 93 = .ok (.invokevirtual 248, 3) := by decide +kernel
theorem dL_isLike_96 : decode cL_isLike 96 = .ok (.aload_n 2, 1) := by decide +kernel
theorem dL_isLike_97 : decode cL_isLike 97 = .ok (.getfield 251, 3) := by decide +kernel
theorem dL_isLike_100 : decode cL_isLike 100 = .ok (.if_icmp .ne 7, 3) := by decide +kernel
theorem dL_isLike_103 : decode cL_isLike 103 = .ok (.iconst 1, 1) := by decide +kernel
theorem dL_isLike_104 : decode cL_isLike 104 = .ok (.goto 4, 3) := by decide +kernel
theorem dL_isLike_107 : decode cL_isLike 107 = .ok (.iconst 0, 1) := by decide +kernel
theorem dL_isLike_108 : decode cL_isLike 108 = .ok (.ireturn, 1) := by decide +kernel
theorem dL_law_0 : decode cL_law 0 = .ok (.aload_n 0, 1) := by decide +kernel
theorem dL_law_1 : decode cL_law 1 = .ok (.invokestatic 253, 3) := by decide +kernel
theorem dL_law_4 : decode cL_law 4 = .ok (.astore_n 1, 1) := by decide +kernel
theorem dL_law_5 : decode cL_law 5 = .ok (.aload_n 1, 1) := by decide +kernel
theorem dL_law_6 : decode cL_law 6 = .ok (.ifnonnull 5, 3) := by decide +kernel
theorem dL_law_9 : decode cL_law 9 = .ok (.iconst 0, 1) := by decide +kernel
theorem dL_law_10 : decode cL_law 10 = .ok (.ireturn, 1) := by decide +kernel
theorem dL_law_11 : decode cL_law 11 = .ok (.aload_n 0, 1) := by decide +kernel
theorem dL_law_12 : decode cL_law 12 = .ok (.invokestatic 133, 3) := by decide +kernel
theorem dL_law_15 : decode cL_law 15 = .ok (.anewarray 257, 3) := by decide +kernel
theorem dL_law_18 : decode cL_law 18 = .ok (.astore_n 2, 1) := by decide +kernel
theorem dL_law_19 : decode cL_law 19 = .ok (.aload_n 0, 1) := by decide +kernel
theorem dL_law_20 : decode cL_law 20 = .ok (.invokestatic 133, 3) := by decide +kernel
theorem dL_law_23 : decode cL_law 23 = .ok (.anewarray 257, 3) := by decide +kernel
theorem dL_law_26 : decode cL_law 26 = .ok (.astore_n 3, 1) := by decide +kernel
theorem dL_law_27 : decode cL_law 27 = .ok (.iconst 0, 1) := by decide +kernel
theorem dL_law_28 : decode cL_law 28 = .ok (.istore 4, 2) := by decide +kernel
theorem dL_law_30 : decode cL_law 30 = .ok (.iload 4, 2) := by decide +kernel
theorem dL_law_32 : decode cL_law 32 = .ok (.aload_n 0, 1) := by decide +kernel
theorem dL_law_33 : decode cL_law 33 = .ok (.invokestatic 133, 3) := by decide +kernel
theorem dL_law_36 : decode cL_law 36 = .ok (.if_icmp .ge 76, 3) := by decide +kernel
theorem dL_law_39 : decode cL_law 39 = .ok (.aload_n 2, 1) := by decide +kernel
theorem dL_law_40 : decode cL_law 40 = .ok (.iload 4, 2) := by decide +kernel
theorem dL_law_42 : decode cL_law 42 = .ok (.aload_n 0, 1) := by decide +kernel
theorem dL_law_43 : decode cL_law 43 = .ok (.iload 4, 2) := by decide +kernel
theorem dL_law_45 : decode cL_law 45 = .ok (.invokestatic 151, 3) := by decide +kernel
theorem dL_law_48 : decode cL_law 48 = .ok (.newarray .int, 2) := by decide +kernel
theorem dL_law_50 : decode cL_law 50 = .ok (.aastore, 1) := by decide +kernel
theorem dL_law_51 : decode cL_law 51 = .ok (.aload_n 3, 1) := by decide +kernel
theorem dL_law_52 : decode cL_law 52 = .ok (.iload 4, 2) := by decide +kernel
theorem dL_law_54 : decode cL_law 54 = .ok (.aload_n 0, 1) := by decide +kernel
theorem dL_law_55 : decode cL_law 55 = .ok (.iload 4, 2) := by decide +kernel
theorem dL_law_57 : decode cL_law 57 = .ok (.invokestatic 151, 3) := by decide +kernel
theorem dL_law_60 : decode cL_law 60 = .ok (.newarray .int, 2) := by decide +kernel
theorem dL_law_62 : decode cL_law 62 = .ok (.aastore, 1) := by decide +kernel
theorem dL_law_63 : decode cL_law 63 = .ok (.iconst 0, 1) := by decide +kernel
theorem dL_law_64 : decode cL_law 64 = .ok (.istore 5, 2) := by decide +kernel
theorem dL_law_66 : decode cL_law 66 = .ok (.iload 5, 2) := by decide +kernel
theorem dL_law_68 : decode cL_law 68 = .ok (.aload_n 0, 1) := by decide +kernel
theorem dL_law_69 : decode cL_law 69 = .ok (.iload 4, 2) := by decide +kernel
theorem dL_law_71 : decode cL_law 71 = .ok (.invokestatic 151, 3) := by decide +kernel
theorem dL_law_74 : decode cL_law 74 = .ok (.if_icmp .ge 32, 3) := by decide +kernel
theorem dL_law_77 : decode cL_law 77 = .ok (.aload_n 2, 1) := by decide +kernel
theorem dL_law_78 : decode cL_law 78 = .ok (.iload 4, 2) := by decide +kernel
theorem dL_law_80 : decode cL_law 80 = .ok (.aaload, 1) := by decide +kernel
theorem dL_law_81 : decode cL_law 81 = .ok (.iload 5, 2) := by decide +kernel
theorem dL_law_83 : decode cL_law 83 = .ok (.aload_n 0, 1) := by decide +kernel
theorem dL_law_84 : decode cL_law 84 = .ok (.iload 4, 2) := by decide +kernel
theorem dL_law_86 : decode cL_law 86 = .ok (.iload 5, 2) := by decide +kernel
theorem dL_law_88 : decode cL_law 88 = .ok (.invokestatic 154, 3) := by decide +kernel
theorem dL_law_91 : decode cL_law 91 = .ok (.iastore, 1) := by decide +kernel
theorem dL_law_92 : decode cL_law 92 = .ok (.aload_n 3, 1) := by decide +kernel
theorem dL_law_93 : decode cL_law 93 = .ok (.iload 4, 2) := by decide +kernel
theorem dL_law_95 : decode cL_law 95 = .ok (.aaload, 1) := by decide +kernel
theorem dL_law_96 : decode cL_law 96 = .ok (.iload 5, 2) := by decide +kernel
theorem dL_law_98 : decode cL_law 98 = .ok (.iconst (-1), 1) := by decide +kernel
theorem dL_law_99 : decode cL_law 99 = .ok (.iastore, 1) := by decide +kernel
theorem dL_law_100 : decode cL_law 100 = .ok (.iinc 5 1, 3) := by decide +kernel
theorem dL_law_103 : decode cL_law 103 = .ok (.goto (-37), 3) := by decide +kernel
theorem dL_law_106 : decode cL_law 106 = .ok (.iinc 4 1, 3) := by decide +kernel
theorem dL_law_109 : decode cL_law 109 = .ok (.goto (-79), 3) := by decide +kernel
theorem dL_law_112 : decode cL_law 112 = .ok (.iconst 0, 1) := by decide +kernel
theorem dL_law_113 : decode cL_law 113 = .ok (.istore 4, 2) := by decide +kernel
theorem dL_law_115 : decode cL_law 115 = .ok (.iload 4, 2) := by decide +kernel
theorem dL_law_117 : decode cL_law 117 = .ok (.bipush 8, 2) := by decide +kernel
theorem dL_law_119 : decode cL_law 119 = .ok (.if_icmp .ge 519, 3) := by decide +kernel
theorem dL_law_122 : decode cL_law 122 = .ok (.iconst 0, 1) := by decide +kernel
theorem dL_law_123 : decode cL_law 123 = .ok (.istore 5, 2) := by decide +kernel
theorem dL_law_125 : decode cL_law 125 = .ok (.iload 5, 2) := by decide +kernel
theorem dL_law_127 : decode cL_law 127 = .ok (.aload_n 0, 1) := by decide +kernel
theorem dL_law_128 : decode cL_law 128 = .ok (.invokestatic 133, 3) := by decide +kernel
theorem dL_law_131 : decode cL_law 131 = .ok (.if_icmp .ge 375, 3) := by decide +kernel
theorem dL_law_134 : decode cL_law 134 = .ok (.aload_n 0, 1) := by decide +kernel
theorem dL_law_135 : decode cL_law 135 = .ok (.iload 5, 2) := by decide +kernel
theorem dL_law_137 : decode cL_law 137 = .ok (.aload_n 0, 1) := by decide +kernel
theorem dL_law_138 : decode cL_law 138 = .ok (.iload 5, 2) := by decide +kernel
theorem dL_law_140 : decode cL_law 140 = .ok (.invokestatic 141, 3) := by decide +kernel
theorem dL_law_143 : decode cL_law 143 = .ok (.aload_n 2, 1) := by decide +kernel
theorem dL_law_144 : decode cL_law 144 = .ok (.iload 5, 2) := by decide +kernel
theorem dL_law_146 : decode cL_law 146 = .ok (.aaload, 1) := by decide +kernel
theorem dL_law_147 : decode cL_law 147 = .ok (.aload_n 3, 1) := by decide +kernel
theorem dL_law_148 : decode cL_law 148 = .ok (.iload 5, 2) := by decide +kernel
theorem dL_law_150 : decode cL_law 150 = .ok (.aaload, 1) := by decide +kernel
theorem dL_law_151 : decode cL_law 151 = .ok (.iconst (-1), 1) := by decide +kernel
theorem dL_law_152 : decode cL_law 152 = .ok (.iconst 0, 1) := by decide +kernel
theorem dL_law_153 : decode cL_law 153 = .ok (.invokestatic 258, 3) := by decide +kernel
theorem dL_law_156 : decode cL_law 156 = .ok (.astore 6, 2) := by decide +kernel
theorem dL_law_158 : decode cL_law 158 = .ok (.aload_n 1, 1) := by decide +kernel
theorem dL_law_159 : decode cL_law 159 = .ok (.iload 5, 2) := by decide +kernel
theorem dL_law_161 : decode cL_law 161 = .ok (.aload 6, 2) := by decide +kernel
theorem dL_law_163 : decode cL_law 163 = .ok (.invokestatic 262, 3) := by decide +kernel
theorem dL_law_166 : decode cL_law 166 = .ok (.ifCond .ne 5, 3) := by decide +kernel
theorem dL_law_169 : decode cL_law 169 = .ok (.iconst 0, 1) := by decide +kernel
theorem dL_law_170 : decode cL_law 170 = .ok (.ireturn, 1) := by decide +kernel
theorem dL_law_171 : decode cL_law 171 = .ok (.aload_n 0, 1) := by decide +kernel
theorem dL_law_172 : decode cL_law 172 = .ok (.iload 5, 2) := by decide +kernel
theorem dL_law_174 : decode cL_law 174 = .ok (.aload_n 0, 1) := by decide +kernel
theorem dL_law_175 : decode cL_law 175 = .ok (.iload 5, 2) := by decide +kernel
theorem dL_law_177 : decode cL_law 177 = .ok (.invokestatic 141, 3) := by decide +kernel
theorem dL_law_180 : decode cL_law 180 = .ok (.aload_n 2, 1) := by decide +kernel
theorem dL_law_181 : decode cL_law 181 = .ok (.iload 5, 2) := by decide +kernel
theorem dL_law_183 : decode cL_law 183 = .ok (.aaload, 1) := by decide +kernel
theorem dL_law_184 : decode cL_law 184 = .ok (.aload_n 3, 1) := by decide +kernel
theorem dL_law_185 : decode cL_law 185 = .ok (.iload 5, 2) := by decide +kernel
theorem dL_law_187 : decode cL_law 187 = .ok (.aaload, 1) := by decide +kernel
theorem dL_law_188 : decode cL_law 188 = .ok (.iconst (-1), 1) := by decide +kernel
theorem dL_law_189 : decode cL_law 189 = .ok (.iconst 1, 1) := by decide +kernel
theorem dL_law_190 : decode cL_law 190 = .ok (.invokestatic 258, 3) := by decide +kernel
theorem dL_law_193 : decode cL_law 193 = .ok (.astore 7, 2) := by decide +kernel
theorem dL_law_195 : decode cL_law 195 = .ok (.aload_n 0, 1) := by decide +kernel
theorem dL_law_196 : decode cL_law 196 = .ok (.iload 5, 2) := by decide +kernel
theorem dL_law_198 : decode cL_law 198 = .ok (.iconst 1, 1) := by decide +kernel
theorem dL_law_199 : decode cL_law 199 = .ok (.aload_n 0, 1) := by decide +kernel
theorem dL_law_200 : decode cL_law 200 = .ok (.iload 5, 2) := by decide +kernel
theorem dL_law_202 : decode cL_law 202 = .ok (.invokestatic 141, 3) := by decide +kernel
theorem dL_law_205 : decode cL_law 205 = .ok (.isub, 1) := by decide +kernel
theorem dL_law_206 : decode cL_law 206 = .ok (.aload_n 2, 1) := by decide +kernel
theorem dL_law_207 : decode cL_law 207 = .ok (.iload 5, 2) := by decide +kernel
theorem dL_law_209 : decode cL_law 209 = .ok (.aaload, 1) := by decide +kernel
theorem dL_law_210 : decode cL_law 210 = .ok (.aload_n 3, 1) := by decide +kernel
theorem dL_law_211 : decode cL_law 211 = .ok (.iload 5, 2) := by decide +kernel
theorem dL_law_213 : decode cL_law 213 = .ok (.aaload, 1) := by decide +kernel
theorem dL_law_214 : decode cL_law 214 = .ok (.iconst (-1), 1) := by decide +kernel
theorem dL_law_215 : decode cL_law 215 = .ok (.iconst 0, 1) := by decide +kernel
theorem dL_law_216 : decode cL_law 216 = .ok (.invokestatic 258, 3) := by decide +kernel
theorem dL_law_219 : decode cL_law 219 = .ok (.astore 8, 2) := by decide +kernel
theorem dL_law_221 : decode cL_law 221 = .ok (.iconst 0, 1) := by decide +kernel
theorem dL_law_222 : decode cL_law 222 = .ok (.istore 9, 2) := by decide +kernel
theorem dL_law_224 : decode cL_law 224 = .ok (.iload 9, 2) := by decide +kernel
theorem dL_law_226 : decode cL_law 226 = .ok (.aload_n 0, 1) := by decide +kernel
theorem dL_law_227 : decode cL_law 227 = .ok (.iload 5, 2) := by decide +kernel
theorem dL_law_229 : decode cL_law 229 = .ok (.invokestatic 151, 3) := by decide +kernel
theorem dL_law_232 : decode cL_law 232 = .ok (.if_icmp .ge 124, 3) := by decide +kernel
theorem dL_law_235 : decode cL_law 235 = .ok (.aload_n 1, 1) := by decide +kernel
theorem dL_law_236 : decode cL_law 236 = .ok (.iload 5, 2) := by decide +kernel
theorem dL_law_238 : decode cL_law 238 = .ok (.iload 9, 2) := by decide +kernel
theorem dL_law_240 : decode cL_law 240 = .ok (.invokevirtual 266, 3) := by decide +kernel
theorem dL_law_243 : decode cL_law 243 = .ok (.aload 7, 2) := by decide +kernel
theorem dL_law_245 : decode cL_law 245 = .ok (.getfield 206, 3) := by decide +kernel
theorem dL_law_248 : decode cL_law 248 = .ok (.iload 9, 2) := by decide +kernel
theorem dL_law_250 : decode cL_law 250 = .ok (.iaload, 1) := by decide +kernel
theorem dL_law_251 : decode cL_law 251 = .ok (.if_icmp .ne 97, 3) := by decide +kernel
theorem dL_law_254 : decode cL_law 254 = .ok (.aload_n 1, 1) := by decide +kernel
theorem dL_law_255 : decode cL_law 255 = .ok (.iload 5, 2) := by decide +kernel
theorem dL_law_257 : decode cL_law 257 = .ok (.iload 9, 2) := by decide +kernel
theorem dL_law_259 : decode cL_law 259 = .ok (.invokevirtual 269, 3) := by decide +kernel
theorem dL_law_262 : decode cL_law 262 = .ok (.aload 8, 2) := by decide +kernel
theorem dL_law_264 : decode cL_law 264 = .ok (.getfield 206, 3) := by decide +kernel
theorem dL_law_267 : decode cL_law 267 = .ok (.iload 9, 2) := by decide +kernel
theorem dL_law_269 : decode cL_law 269 = .ok (.iaload, 1) := by decide +kernel
theorem dL_law_270 : decode cL_law 270 = .ok (.if_icmp .ne 78, 3) := by decide +kernel
theorem dL_law_273 : decode cL_law 273 = .ok (.aload_n 1, 1) := by decide +kernel
theorem dL_law_274 : decode cL_law 274 = .ok (.iload 5, 2) := by decide +kernel
theorem dL_law_276 : decode cL_law 276 = .ok (.iload 9, 2) := by decide +kernel
theorem dL_law_278 : decode cL_law 278 = .ok (.iconst 4, 1) := by decide +kernel
theorem dL_law_279 : decode cL_law 279 = .ok (.invokevirtual 239, 3) := by decide +kernel
theorem dL_law_282 : decode cL_law 282 = .ok (.i2l, 1) := by decide +kernel
theorem dL_law_283 : decode cL_law 283 = .ok (.aload_n 0, 1) := by decide +kernel
theorem dL_law_284 : decode cL_law 284 = .ok (.aload_n 0, 1) := by decide +kernel
theorem dL_law_285 : decode cL_law 285 = .ok (.iload 5, 2) := by decide +kernel
theorem dL_law_287 : decode cL_law 287 = .ok (.invokestatic 141, 3) := by decide +kernel
theorem dL_law_290 : decode cL_law 290 = .ok (.aload_n 2, 1) := by decide +kernel
theorem dL_law_291 : decode cL_law 291 = .ok (.iload 5, 2) := by decide +kernel
theorem dL_law_293 : decode cL_law 293 = .ok (.aaload, 1) := by decide +kernel
theorem dL_law_294 : decode cL_law 294 = .ok (.iload 9, 2) := by decide +kernel
theorem dL_law_296 : decode cL_law 296 = .ok (.iaload, 1) := by decide +kernel
theorem dL_law_297 : decode cL_law 297 = .ok (.aload_n 0, 1) := by decide +kernel
theorem dL_law_298 : decode cL_law 298 = .ok (.iload 5, 2) := by decide +kernel
theorem dL_law_300 : decode cL_law 300 = .ok (.iload 9, 2) := by decide +kernel
theorem dL_law_302 : decode cL_law 302 = .ok (.invokestatic 148, 3) := by decide +kernel
theorem dL_law_305 : decode cL_law 305 = .ok (.aload_n 0, 1) := by decide +kernel
theorem dL_law_306 : decode cL_law 306 = .ok (.iload 5, 2) := by decide +kernel
theorem dL_law_308 : decode cL_law 308 = .ok (.iload 9, 2) := by decide +kernel
theorem dL_law_310 : decode cL_law 310 = .ok (.iconst 1, 1) := by decide +kernel
theorem dL_law_311 : decode cL_law 311 = .ok (.iadd, 1) := by decide +kernel
theorem dL_law_312 : decode cL_law 312 = .ok (.invokestatic 148, 3) := by decide +kernel
theorem dL_law_315 : decode cL_law 315 = .ok (.invokestatic 196, 3) := by decide +kernel
theorem dL_law_318 : decode cL_law 318 = .ok (.lcmp, 1) := by decide +kernel
theorem dL_law_319 : decode cL_law 319 = .ok (.ifCond .ne 29, 3) := by decide +kernel
theorem dL_law_322 : decode cL_law 322 = .ok (.aload_n 1, 1) := by decide +kernel
theorem dL_law_323 : decode cL_law 323 = .ok (.iload 5, 2) := by decide +kernel
theorem dL_law_325 : decode cL_law 325 = .ok (.iload 9, 2) := by decide +kernel
theorem dL_law_327 : decode cL_law 327 = .ok (.bipush 7, 2) := by decide +kernel
theorem dL_law_329 : decode cL_law 329 = .ok (.invokevirtual 239, 3) := by decide +kernel
theorem dL_law_332 : decode cL_law 332 = .ok (.aload_n 0, 1) := by decide +kernel
theorem dL_law_333 : decode cL_law 333 = .ok (.iload 5, 2) := by decide +kernel
theorem dL_law_335 : decode cL_law 335 = .ok (.aload_n 2, 1) := by decide +kernel
theorem dL_law_336 : decode cL_law 336 = .ok (.iload 5, 2) := by decide +kernel
theorem dL_law_338 : decode cL_law 338 = .ok (.aaload, 1) := by decide +kernel
theorem dL_law_339 : decode cL_law 339 = .ok (.iload 9, 2) := by decide +kernel
theorem dL_law_341 : decode cL_law 341 = .ok (.iconst (-1), 1) := by decide +kernel
theorem dL_law_342 : decode cL_law 342 = .ok (.invokestatic 200, 3) := by decide +kernel
theorem dL_law_345 : decode cL_law 345 = .ok (.if_icmp .eq 5, 3) := by decide +kernel
theorem dL_law_348 : decode cL_law 348 = .ok (.iconst 0, 1) := by decide +kernel
theorem dL_law_349 : decode cL_law 349 = .ok (.ireturn, 1) := by decide +kernel
theorem dL_law_350 : decode cL_law 350 = .ok (.iinc 9 1, 3) := by decide +kernel
theorem dL_law_353 : decode cL_law 353 = .ok (.goto (-129), 3) := by decide +kernel
theorem dL_law_356 : decode cL_law 356 = .ok (.iconst 0, 1) := by decide +kernel
theorem dL_law_357 : decode cL_law 357 = .ok (.istore 9, 2) := by decide +kernel
theorem dL_law_359 : decode cL_law 359 = .ok (.iload 9, 2) := by decide +kernel
theorem dL_law_361 : decode cL_law 361 = .ok (.aload_n 0, 1) := by decide +kernel
theorem dL_law_362 : decode cL_law 362 = .ok (.invokestatic 106, 3) := by decide +kernel
theorem dL_law_365 : decode cL_law 365 = .ok (.if_icmp .ge 135, 3) := by decide +kernel
theorem dL_law_368 : decode cL_law 368 = .ok (.aload_n 0, 1) := by decide +kernel
theorem dL_law_369 : decode cL_law 369 = .ok (.iload 5, 2) := by decide +kernel
theorem dL_law_371 : decode cL_law 371 = .ok (.aload_n 0, 1) := by decide +kernel
theorem dL_law_372 : decode cL_law 372 = .ok (.iload 5, 2) := by decide +kernel
theorem dL_law_374 : decode cL_law 374 = .ok (.invokestatic 141, 3) := by decide +kernel
theorem dL_law_377 : decode cL_law 377 = .ok (.aload_n 2, 1) := by decide +kernel
theorem dL_law_378 : decode cL_law 378 = .ok (.iload 5, 2) := by decide +kernel
theorem dL_law_380 : decode cL_law 380 = .ok (.aaload, 1) := by decide +kernel
theorem dL_law_381 : decode cL_law 381 = .ok (.aload_n 3, 1) := by decide +kernel
theorem dL_law_382 : decode cL_law 382 = .ok (.iload 5, 2) := by decide +kernel
theorem dL_law_384 : decode cL_law 384 = .ok (.aaload, 1) := by decide +kernel
theorem dL_law_385 : decode cL_law 385 = .ok (.iload 9, 2) := by decide +kernel
theorem dL_law_387 : decode cL_law 387 = .ok (.iconst 0, 1) := by decide +kernel
theorem dL_law_388 : decode cL_law 388 = .ok (.invokestatic 258, 3) := by decide +kernel
theorem dL_law_391 : decode cL_law 391 = .ok (.astore 10, 2) := by decide +kernel
theorem dL_law_393 : decode cL_law 393 = .ok (.iconst 0, 1) := by decide +kernel
theorem dL_law_394 : decode cL_law 394 = .ok (.istore 11, 2) := by decide +kernel
theorem dL_law_396 : decode cL_law 396 = .ok (.iconst 0, 1) := by decide +kernel
theorem dL_law_397 : decode cL_law 397 = .ok (.istore 12, 2) := by decide +kernel
theorem dL_law_399 : decode cL_law 399 = .ok (.iload 12, 2) := by decide +kernel
theorem dL_law_401 : decode cL_law 401 = .ok (.aload_n 0, 1) := by decide +kernel
theorem dL_law_402 : decode cL_law 402 = .ok (.iload 5, 2) := by decide +kernel
theorem dL_law_404 : decode cL_law 404 = .ok (.invokestatic 151, 3) := by decide +kernel
theorem dL_law_407 : decode cL_law 407 = .ok (.if_icmp .ge 61, 3) := by decide +kernel
theorem dL_law_410 : decode cL_law 410 = .ok (.aload_n 1, 1) := by decide +kernel
theorem dL_law_411 : decode cL_law 411 = .ok (.iload 9, 2) := by decide +kernel
theorem dL_law_413 : decode cL_law 413 = .ok (.iload 5, 2) := by decide +kernel
theorem dL_law_415 : decode cL_law 415 = .ok (.iload 12, 2) := by decide +kernel
theorem dL_law_417 : decode cL_law 417 = .ok (.invokevirtual 272, 3) := by decide +kernel
theorem dL_law_420 : decode cL_law 420 = .ok (.aload 10, 2) := by decide +kernel
theorem dL_law_422 : decode cL_law 422 = .ok (.getfield 206, 3) := by decide +kernel
theorem dL_law_425 : decode cL_law 425 = .ok (.iload 12, 2) := by decide +kernel
theorem dL_law_427 : decode cL_law 427 = .ok (.iaload, 1) := by decide +kernel
theorem dL_law_428 : decode cL_law 428 = .ok (.if_icmp .eq 5, 3) := by decide +kernel
theorem dL_law_431 : decode cL_law 431 = .ok (.iconst 0, 1) := by decide +kernel
theorem dL_law_432 : decode cL_law 432 = .ok (.ireturn, 1) := by decide +kernel
theorem dL_law_433 : decode cL_law 433 = .ok (.iload 11, 2) := by decide +kernel
theorem dL_law_435 : decode cL_law 435 = .ok (.aload 10, 2) := by decide +kernel
theorem dL_law_437 : decode cL_law 437 = .ok (.getfield 206, 3) := by decide +kernel
theorem dL_law_440 : decode cL_law 440 = .ok (.iload 12, 2) := by decide +kernel
theorem dL_law_442 : decode cL_law 442 = .ok (.iaload, 1) := by decide +kernel
theorem dL_law_443 : decode cL_law 443 = .ok (.aload 6, 2) := by decide +kernel
theorem dL_law_445 : decode cL_law 445 = .ok (.getfield 206, 3) := by decide +kernel
theorem dL_law_448 : decode cL_law 448 = .ok (.iload 12, 2) := by decide +kernel
theorem dL_law_450 : decode cL_law 450 = .ok (.iaload, 1) := by decide +kernel
theorem dL_law_451 : decode cL_law 451 = .ok (.if_icmp .eq 7, 3) := by decide +kernel
theorem dL_law_454 : decode cL_law 454 = .ok (.iconst 1, 1) := by decide +kernel
theorem dL_law_455 : decode cL_law 455 = .ok (.goto 4, 3) := by decide +kernel
theorem dL_law_458 : decode cL_law 458 = .ok (.iconst 0, 1) := by decide +kernel
theorem dL_law_459 : decode cL_law 459 = .ok (.ior, 1) := by decide +kernel
theorem dL_law_460 : decode cL_law 460 = .ok (.istore 11, 2) := by decide +kernel
theorem dL_law_462 : decode cL_law 462 = .ok (.iinc 12 1, 3) := by decide +kernel
theorem dL_law_465 : decode cL_law 465 = .ok (.goto (-66), 3) := by decide +kernel
theorem dL_law_468 : decode cL_law 468 = .ok (.aload_n 1, 1) := by decide +kernel
theorem dL_law_469 : decode cL_law 469 = .ok (.iload 9, 2) := by decide +kernel
theorem dL_law_471 : decode cL_law 471 = .ok (.invokevirtual 275, 3) := by decide +kernel
theorem dL_law_474 : decode cL_law 474 = .ok (.iload 5, 2) := by decide +kernel
theorem dL_law_476 : decode cL_law 476 = .ok (.ishr, 1) := by decide +kernel
theorem dL_law_477 : decode cL_law 477 = .ok (.iconst 1, 1) := by decide +kernel
theorem dL_law_478 : decode cL_law 478 = .ok (.iand, 1) := by decide +kernel
theorem dL_law_479 : decode cL_law 479 = .ok (.iload 11, 2) := by decide +kernel
theorem dL_law_481 : decode cL_law 481 = .ok (.ifCond .eq 7, 3) := by decide +kernel
theorem dL_law_484 : decode cL_law 484 = .ok (.iconst 1, 1) := by decide +kernel
theorem dL_law_485 : decode cL_law 485 = .ok (.goto 4, 3) := by decide +kernel
theorem dL_law_488 : decode cL_law 488 = .ok (.iconst 0, 1) := by decide +kernel
theorem dL_law_489 : decode cL_law 489 = .ok (.if_icmp .eq 5, 3) := by decide +kernel
theorem dL_law_492 : decode cL_law 492 = .ok (.iconst 0, 1) := by decide +kernel
theorem dL_law_493 : decode cL_law 493 = .ok (.ireturn, 1) := by decide +kernel
theorem dL_law_494 : decode cL_law 494 = .ok (.iinc 9 1, 3) := by decide +kernel
theorem dL_law_497 : decode cL_law 497 = .ok (.goto (-138), 3) := by decide +kernel
theorem dL_law_500 : decode cL_law 500 = .ok (.iinc 5 1, 3) := by decide +kernel
theorem dL_law_503 : decode cL_law 503 = .ok (.goto (-378), 3) := by decide +kernel
theorem dL_law_506 : decode cL_law 506 = .ok (.aload_n 0, 1) := by decide +kernel
theorem dL_law_507 : decode cL_law 507 = .ok (.bipush 19, 2) := by decide +kernel
theorem dL_law_509 : decode cL_law 509 = .ok (.iload 4, 2) := by decide +kernel
theorem dL_law_511 : decode cL_law 511 = .ok (.iadd, 1) := by decide +kernel
theorem dL_law_512 : decode cL_law 512 = .ok (.invokestatic 37, 3) := by decide +kernel
theorem dL_law_515 : decode cL_law 515 = .ok (.istore 5, 2) := by decide +kernel
theorem dL_law_517 : decode cL_law 517 = .ok (.iload 5, 2) := by decide +kernel
theorem dL_law_519 : decode cL_law 519 = .ok (.iconst 4, 1) := by decide +kernel
theorem dL_law_520 : decode cL_law 520 = .ok (.idiv, 1) := by decide +kernel
theorem dL_law_521 : decode cL_law 521 = .ok (.aload_n 0, 1) := by decide +kernel
theorem dL_law_522 : decode cL_law 522 = .ok (.invokestatic 133, 3) := by decide +kernel
theorem dL_law_525 : decode cL_law 525 = .ok (.invokestatic 43, 3) := by decide +kernel
theorem dL_law_528 : decode cL_law 528 = .ok (.istore 6, 2) := by decide +kernel
theorem dL_law_530 : decode cL_law 530 = .ok (.iload 5, 2) := by decide +kernel
theorem dL_law_532 : decode cL_law 532 = .ok (.bipush 16, 2) := by decide +kernel
theorem dL_law_534 : decode cL_law 534 = .ok (.idiv, 1) := by decide +kernel
theorem dL_law_535 : decode cL_law 535 = .ok (.aload_n 0, 1) := by decide +kernel
theorem dL_law_536 : decode cL_law 536 = .ok (.iload 6, 2) := by decide +kernel
theorem dL_law_538 : decode cL_law 538 = .ok (.invokestatic 151, 3) := by decide +kernel
theorem dL_law_541 : decode cL_law 541 = .ok (.invokestatic 43, 3) := by decide +kernel
theorem dL_law_544 : decode cL_law 544 = .ok (.istore 7, 2) := by decide +kernel
theorem dL_law_546 : decode cL_law 546 = .ok (.iload 5, 2) := by decide +kernel
theorem dL_law_548 : decode cL_law 548 = .ok (.iconst 3, 1) := by decide +kernel
theorem dL_law_549 : decode cL_law 549 = .ok (.invokestatic 43, 3) := by decide +kernel
theorem dL_law_552 : decode cL_law 552 = .ok (.ifCond .le 36, 3) := by decide +kernel
theorem dL_law_555 : decode cL_law 555 = .ok (.aload_n 1, 1) := by decide +kernel
theorem dL_law_556 : decode cL_law 556 = .ok (.iload 6, 2) := by decide +kernel
theorem dL_law_558 : decode cL_law 558 = .ok (.iload 7, 2) := by decide +kernel
theorem dL_law_560 : decode cL_law 560 = .ok (.invokevirtual 237, 3) := by decide +kernel
theorem dL_law_563 : decode cL_law 563 = .ok (.istore 8, 2) := by decide +kernel
theorem dL_law_565 : decode cL_law 565 = .ok (.aload_n 1, 1) := by decide +kernel
theorem dL_law_566 : decode cL_law 566 = .ok (.iload 6, 2) := by decide +kernel
theorem dL_law_568 : decode cL_law 568 = .ok (.iload 7, 2) := by decide +kernel
theorem dL_law_570 : decode cL_law 570 = .ok (.invokevirtual 278, 3) := by decide +kernel
theorem dL_law_573 : decode cL_law 573 = .ok (.ifCond .lt 12, 3) := by decide +kernel
theorem dL_law_576 : decode cL_law 576 = .ok (.aload_n 3, 1) := by decide +kernel
theorem dL_law_577 : decode cL_law 577 = .ok (.iload 6, 2) := by decide +kernel
theorem dL_law_579 : decode cL_law 579 = .ok (.aaload, 1) := by decide +kernel
theorem dL_law_580 : decode cL_law 580 = .ok (.iload 7, 2) := by decide +kernel
theorem dL_law_582 : decode cL_law 582 = .ok (.iload 8, 2) := by decide +kernel
theorem dL_law_584 : decode cL_law 584 = .ok (.iastore, 1) := by decide +kernel
theorem dL_law_585 : decode cL_law 585 = .ok (.goto 47, 3) := by decide +kernel
theorem dL_law_588 : decode cL_law 588 = .ok (.aload_n 1, 1) := by decide +kernel
theorem dL_law_589 : decode cL_law 589 = .ok (.iload 6, 2) := by decide +kernel
theorem dL_law_591 : decode cL_law 591 = .ok (.iload 7, 2) := by decide +kernel
theorem dL_law_593 : decode cL_law 593 = .ok (.iload 5, 2) := by decide +kernel
theorem dL_law_595 : decode cL_law 595 = .ok (.sipush 128, 3) := by decide +kernel
theorem dL_law_598 : decode cL_law 598 = .ok (.idiv, 1) := by decide +kernel
theorem dL_law_599 : decode cL_law 599 = .ok (.aload_n 0, 1) := by decide +kernel
theorem dL_law_600 : decode cL_law 600 = .ok (.invokestatic 51, 3) := by decide +kernel
theorem dL_law_603 : decode cL_law 603 = .ok (.invokestatic 43, 3) := by decide +kernel
theorem dL_law_606 : decode cL_law 606 = .ok (.invokevirtual 281, 3) := by decide +kernel
theorem dL_law_609 : decode cL_law 609 = .ok (.ifCond .lt 23, 3) := by decide +kernel
theorem dL_law_612 : decode cL_law 612 = .ok (.aload_n 2, 1) := by decide +kernel
theorem dL_law_613 : decode cL_law 613 = .ok (.iload 6, 2) := by decide +kernel
theorem dL_law_615 : decode cL_law 615 = .ok (.aaload, 1) := by decide +kernel
theorem dL_law_616 : decode cL_law 616 = .ok (.iload 7, 2) := by decide +kernel
theorem dL_law_618 : decode cL_law 618 = .ok (.iload 5, 2) := by decide +kernel
theorem dL_law_620 : decode cL_law 620 = .ok (.sipush 128, 3) := by decide +kernel
theorem dL_law_623 : decode cL_law 623 = .ok (.idiv, 1) := by decide +kernel
theorem dL_law_624 : decode cL_law 624 = .ok (.aload_n 0, 1) := by decide +kernel
theorem dL_law_625 : decode cL_law 625 = .ok (.invokestatic 51, 3) := by decide +kernel
theorem dL_law_628 : decode cL_law 628 = .ok (.invokestatic 43, 3) := by decide +kernel
theorem dL_law_631 : decode cL_law 631 = .ok (.iastore, 1) := by decide +kernel
theorem dL_law_632 : decode cL_law 632 = .ok (.iinc 4 1, 3) := by decide +kernel
theorem dL_law_635 : decode cL_law 635 = .ok (.goto (-520), 3) := by decide +kernel
theorem dL_law_638 : decode cL_law 638 = .ok (.aload_n 1, 1) := by decide +kernel
theorem dL_law_639 : decode cL_law 639 = .ok (.aload_n 0, 1) := by decide +kernel
theorem dL_law_640 : decode cL_law 640 = .ok (.invokestatic 133, 3) := by decide +kernel
theorem dL_law_643 : decode cL_law 643 = .ok (.iconst 0, 1) := by decide +kernel
theorem dL_law_644 : decode cL_law 644 = .ok (.invokevirtual 237, 3) := by decide +kernel
theorem dL_law_647 : decode cL_law 647 = .ok (.iconst (-1), 1) := by decide +kernel
theorem dL_law_648 : decode cL_law 648 = .ok (.if_icmp .ne 32, 3) := by decide +kernel
theorem dL_law_651 : decode cL_law 651 = .ok (.aload_n 1, 1) := by decide +kernel
theorem dL_law_652 : decode cL_law 652 = .ok (.iconst 0, 1) := by decide +kernel
theorem dL_law_653 : decode cL_law 653 = .ok (.bipush 8, 2) := by decide +kernel
theorem dL_law_655 : decode cL_law 655 = .ok (.invokevirtual 266, 3) := by decide +kernel
theorem dL_law_658 : decode cL_law 658 = .ok (.iconst (-1), 1) := by decide +kernel
theorem dL_law_659 : decode cL_law 659 = .ok (.if_icmp .ne 21, 3) := by decide +kernel
theorem dL_law_662 : decode cL_law 662 = .ok (.aload_n 1, 1) := by decide +kernel
theorem dL_law_663 : decode cL_law 663 = .ok (.aload_n 0, 1) := by decide +kernel
theorem dL_law_664 : decode cL_law 664 = .ok (.invokestatic 106, 3) := by decide +kernel
theorem dL_law_667 : decode cL_law 667 = .ok (.iconst 0, 1) := by decide +kernel
theorem dL_law_668 : decode cL_law 668 = .ok (.iconst 0, 1) := by decide +kernel
theorem dL_law_669 : decode cL_law 669 = .ok (.invokevirtual 272, 3) := by decide +kernel
theorem dL_law_672 : decode cL_law 672 = .ok (.iconst (-1), 1) := by decide +kernel
theorem dL_law_673 : decode cL_law 673 = .ok (.if_icmp .ne 7, 3) := by decide +kernel
theorem dL_law_676 : decode cL_law 676 = .ok (.iconst 1, 1) := by decide +kernel
theorem dL_law_677 : decode cL_law 677 = .ok (.goto 4, 3) := by decide +kernel
theorem dL_law_680 : decode cL_law 680 = .ok (.iconst 0, 1) := by decide +kernel
theorem dL_law_681 : decode cL_law 681 = .ok (.ireturn, 1) := by decide +kernel
