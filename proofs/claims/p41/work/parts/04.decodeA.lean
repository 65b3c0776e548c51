theorem dX1_init_0 : decode cX1_init 0 = .ok (.aload_n 0, 1) := by decide +kernel
theorem dX1_init_1 : decode cX1_init 1 = .ok (.invokespecial 3, 3) := by decide +kernel
theorem dX1_init_4 : decode cX1_init 4 = .ok (.aload_n 0, 1) := by decide +kernel
theorem dX1_init_5 : decode cX1_init 5 = .ok (.iconst 0, 1) := by decide +kernel
theorem dX1_init_6 : decode cX1_init 6 = .ok (.putfield 9, 3) := by decide +kernel
theorem dX1_init_9 : decode cX1_init 9 = .ok (.aload_n 0, 1) := by decide +kernel
theorem dX1_init_10 : decode cX1_init 10 = .ok (.iconst 0, 1) := by decide +kernel
theorem dX1_init_11 : decode cX1_init 11 = .ok (.putfield 15, 3) := by decide +kernel
theorem dX1_init_14 : decode cX1_init 14 = .ok (.aload_n 0, 1) := by decide +kernel
theorem dX1_init_15 : decode cX1_init 15 = .ok (.iconst 0, 1) := by decide +kernel
theorem dX1_init_16 : decode cX1_init 16 = .ok (.putfield 18, 3) := by decide +kernel
theorem dX1_init_19 : decode cX1_init 19 = .ok (.aload_n 0, 1) := by decide +kernel
theorem dX1_init_20 : decode cX1_init 20 = .ok (.iconst 0, 1) := by decide +kernel
theorem dX1_init_21 : decode cX1_init 21 = .ok (.putfield 21, 3) := by decide +kernel
theorem dX1_init_24 : decode cX1_init 24 = .ok (.aload_n 0, 1) := by decide +kernel
theorem dX1_init_25 : decode cX1_init 25 = .ok (.iconst 0, 1) := by decide +kernel
theorem dX1_init_26 : decode cX1_init 26 = .ok (.putfield 24, 3) := by decide +kernel
theorem dX1_init_29 : decode cX1_init 29 = .ok (.aload_n 0, 1) := by decide +kernel
theorem dX1_init_30 : decode cX1_init 30 = .ok (.iconst 0, 1) := by decide +kernel
theorem dX1_init_31 : decode cX1_init 31 = .ok (.putfield 27, 3) := by decide +kernel
theorem dX1_init_34 : decode cX1_init 34 = .ok (.aload_n 0, 1) := by decide +kernel
theorem dX1_init_35 : decode cX1_init 35 = .ok (.iconst 0, 1) := by decide +kernel
theorem dX1_init_36 : decode cX1_init 36 = .ok (.putfield 30, 3) := by decide +kernel
theorem dX1_init_39 : decode cX1_init 39 = .ok (.aload_n 0, 1) := by decide +kernel
theorem dX1_init_40 : decode cX1_init 40 = .ok (.bipush 10, 2) := by decide +kernel
theorem dX1_init_42 : decode cX1_init 42 = .ok (.putfield 33, 3) := by decide +kernel
theorem dX1_init_45 : decode cX1_init 45 = .ok (.aload_n 0, 1) := by decide +kernel
theorem dX1_init_46 : decode cX1_init 46 = .ok (.iconst 0, 1) := by decide +kernel
theorem dX1_init_47 : decode cX1_init 47 = .ok (.putfield 36, 3) := by decide +kernel
theorem dX1_init_50 : decode cX1_init 50 = .ok (.aload_n 0, 1) := by decide +kernel
theorem dX1_init_51 : decode cX1_init 51 = .ok (.iconst 0, 1) := by decide +kernel
theorem dX1_init_52 : decode cX1_init 52 = .ok (.putfield 40, 3) := by decide +kernel
theorem dX1_init_55 : decode cX1_init 55 = .ok (.aload_n 0, 1) := by decide +kernel
theorem dX1_init_56 : decode cX1_init 56 = .ok (.bipush 12, 2) := by decide +kernel
theorem dX1_init_58 : decode cX1_init 58 = .ok (.newarray .long, 2) := by decide +kernel
theorem dX1_init_60 : decode cX1_init 60 = .ok (.putfield 43, 3) := by decide +kernel
theorem dX1_init_63 : decode cX1_init 63 = .ok (.aload_n 0, 1) := by decide +kernel
theorem dX1_init_64 : decode cX1_init 64 = .ok (.bipush 6, 2) := by decide +kernel
theorem dX1_init_66 : decode cX1_init 66 = .ok (.newarray .long, 2) := by decide +kernel
theorem dX1_init_68 : decode cX1_init 68 = .ok (.putfield 47, 3) := by decide +kernel
theorem dX1_init_71 : decode cX1_init 71 = .ok (.aload_n 0, 1) := by decide +kernel
theorem dX1_init_72 : decode cX1_init 72 = .ok (.bipush 8, 2) := by decide +kernel
theorem dX1_init_74 : decode cX1_init 74 = .ok (.newarray .long, 2) := by decide +kernel
theorem dX1_init_76 : decode cX1_init 76 = .ok (.putfield 50, 3) := by decide +kernel
theorem dX1_init_79 : decode cX1_init 79 = .ok (.aload_n 0, 1) := by decide +kernel
theorem dX1_init_80 : decode cX1_init 80 = .ok (.bipush 12, 2) := by decide +kernel
theorem dX1_init_82 : decode cX1_init 82 = .ok (.bipush 12, 2) := by decide +kernel
theorem dX1_init_84 : decode cX1_init 84 = .ok (.multianewarray 53 2, 4) := by decide +kernel
theorem dX1_init_88 : decode cX1_init 88 = .ok (.putfield 55, 3) := by decide +kernel
theorem dX1_init_91 : decode cX1_init 91 = .ok (.aload_n 0, 1) := by decide +kernel
theorem dX1_init_92 : decode cX1_init 92 = .ok (.bipush 12, 2) := by decide +kernel
theorem dX1_init_94 : decode cX1_init 94 = .ok (.bipush 12, 2) := by decide +kernel
theorem dX1_init_96 : decode cX1_init 96 = .ok (.multianewarray 53 2, 4) := by decide +kernel
theorem dX1_init_100 : decode cX1_init 100 = .ok (.putfield 58, 3) := by decide +kernel
theorem dX1_init_103 : decode cX1_init 103 = .ok (.aload_n 0, 1) := by decide +kernel
theorem dX1_init_104 : decode cX1_init 104 = .ok (.iconst 5, 1) := by decide +kernel
theorem dX1_init_105 : decode cX1_init 105 = .ok (.iconst 2, 1) := by decide +kernel
theorem dX1_init_106 : decode cX1_init 106 = .ok (.multianewarray 53 2, 4) := by decide +kernel
theorem dX1_init_110 : decode cX1_init 110 = .ok (.putfield 61, 3) := by decide +kernel
theorem dX1_init_113 : decode cX1_init 113 = .ok (.aload_n 0, 1) := by decide +kernel
theorem dX1_init_114 : decode cX1_init 114 = .ok (.bipush 16, 2) := by decide +kernel
theorem dX1_init_116 : decode cX1_init 116 = .ok (.bipush 6, 2) := by decide +kernel
theorem dX1_init_118 : decode cX1_init 118 = .ok (.multianewarray 53 2, 4) := by decide +kernel
theorem dX1_init_122 : decode cX1_init 122 = .ok (.putfield 64, 3) := by decide +kernel
theorem dX1_init_125 : decode cX1_init 125 = .ok (.aload_n 0, 1) := by decide +kernel
theorem dX1_init_126 : decode cX1_init 126 = .ok (.bipush 16, 2) := by decide +kernel
theorem dX1_init_128 : decode cX1_init 128 = .ok (.iconst 4, 1) := by decide +kernel
theorem dX1_init_129 : decode cX1_init 129 = .ok (.multianewarray 53 2, 4) := by decide +kernel
theorem dX1_init_133 : decode cX1_init 133 = .ok (.putfield 67, 3) := by decide +kernel
theorem dX1_init_136 : decode cX1_init 136 = .ok (.aload_n 0, 1) := by decide +kernel
theorem dX1_init_137 : decode cX1_init 137 = .ok (.bipush 8, 2) := by decide +kernel
theorem dX1_init_139 : decode cX1_init 139 = .ok (.bipush 11, 2) := by decide +kernel
theorem dX1_init_141 : decode cX1_init 141 = .ok (.multianewarray 53 2, 4) := by decide +kernel
theorem dX1_init_145 : decode cX1_init 145 = .ok (.putfield 70, 3) := by decide +kernel
theorem dX1_init_148 : decode cX1_init 148 = .ok (.aload_n 0, 1) := by decide +kernel
theorem dX1_init_149 : decode cX1_init 149 = .ok (.bipush 8, 2) := by decide +kernel
theorem dX1_init_151 : decode cX1_init 151 = .ok (.bipush 9, 2) := by decide +kernel
theorem dX1_init_153 : decode cX1_init 153 = .ok (.multianewarray 53 2, 4) := by decide +kernel
theorem dX1_init_157 : decode cX1_init 157 = .ok (.putfield 73, 3) := by decide +kernel
theorem dX1_init_160 : decode cX1_init 160 = .ok (.return_, 1) := by decide +kernel
theorem dX1_empty_0 : decode cX1_empty 0 = .ok (.aload_n 0, 1) := by decide +kernel
theorem dX1_empty_1 : decode cX1_empty 1 = .ok (.iconst 0, 1) := by decide +kernel
theorem dX1_empty_2 : decode cX1_empty 2 = .ok (.putfield 9, 3) := by decide +kernel
theorem dX1_empty_5 : decode cX1_empty 5 = .ok (.aload_n 0, 1) := by decide +kernel
theorem dX1_empty_6 : decode cX1_empty 6 = .ok (.iconst 0, 1) := by decide +kernel
theorem dX1_empty_7 : decode cX1_empty 7 = .ok (.putfield 15, 3) := by decide +kernel
theorem dX1_empty_10 : decode cX1_empty 10 = .ok (.aload_n 0, 1) := by decide +kernel
theorem dX1_empty_11 : decode cX1_empty 11 = .ok (.iconst 0, 1) := by decide +kernel
theorem dX1_empty_12 : decode cX1_empty 12 = .ok (.putfield 18, 3) := by decide +kernel
theorem dX1_empty_15 : decode cX1_empty 15 = .ok (.aload_n 0, 1) := by decide +kernel
theorem dX1_empty_16 : decode cX1_empty 16 = .ok (.iconst 0, 1) := by decide +kernel
theorem dX1_empty_17 : decode cX1_empty 17 = .ok (.putfield 21, 3) := by decide +kernel
theorem dX1_empty_20 : decode cX1_empty 20 = .ok (.aload_n 0, 1) := by decide +kernel
theorem dX1_empty_21 : decode cX1_empty 21 = .ok (.iconst 0, 1) := by decide +kernel
theorem dX1_empty_22 : decode cX1_empty 22 = .ok (.putfield 24, 3) := by decide +kernel
theorem dX1_empty_25 : decode cX1_empty 25 = .ok (.aload_n 0, 1) := by decide +kernel
theorem dX1_empty_26 : decode cX1_empty 26 = .ok (.iconst 0, 1) := by decide +kernel
theorem dX1_empty_27 : decode cX1_empty 27 = .ok (.putfield 27, 3) := by decide +kernel
theorem dX1_empty_30 : decode cX1_empty 30 = .ok (.aload_n 0, 1) := by decide +kernel
theorem dX1_empty_31 : decode cX1_empty 31 = .ok (.iconst 0, 1) := by decide +kernel
theorem dX1_empty_32 : decode cX1_empty 32 = .ok (.putfield 30, 3) := by decide +kernel
theorem dX1_empty_35 : decode cX1_empty 35 = .ok (.aload_n 0, 1) := by decide +kernel
theorem dX1_empty_36 : decode cX1_empty 36 = .ok (.bipush 10, 2) := by decide +kernel
theorem dX1_empty_38 : decode cX1_empty 38 = .ok (.putfield 33, 3) := by decide +kernel
theorem dX1_empty_41 : decode cX1_empty 41 = .ok (.aload_n 0, 1) := by decide +kernel
theorem dX1_empty_42 : decode cX1_empty 42 = .ok (.iconst 0, 1) := by decide +kernel
theorem dX1_empty_43 : decode cX1_empty 43 = .ok (.putfield 36, 3) := by decide +kernel
theorem dX1_empty_46 : decode cX1_empty 46 = .ok (.aload_n 0, 1) := by decide +kernel
theorem dX1_empty_47 : decode cX1_empty 47 = .ok (.iconst 0, 1) := by decide +kernel
theorem dX1_empty_48 : decode cX1_empty 48 = .ok (.putfield 40, 3) := by decide +kernel
theorem dX1_empty_51 : decode cX1_empty 51 = .ok (.iconst 0, 1) := by decide +kernel
theorem dX1_empty_52 : decode cX1_empty 52 = .ok (.istore_n 1, 1) := by decide +kernel
theorem dX1_empty_53 : decode cX1_empty 53 = .ok (.iload_n 1, 1) := by decide +kernel
theorem dX1_empty_54 : decode cX1_empty 54 = .ok (.bipush 12, 2) := by decide +kernel
theorem dX1_empty_56 : decode cX1_empty 56 = .ok (.if_icmp .ge 51, 3) := by decide +kernel
theorem dX1_empty_59 : decode cX1_empty 59 = .ok (.iconst 0, 1) := by decide +kernel
theorem dX1_empty_60 : decode cX1_empty 60 = .ok (.istore_n 2, 1) := by decide +kernel
theorem dX1_empty_61 : decode cX1_empty 61 = .ok (.iload_n 2, 1) := by decide +kernel
theorem dX1_empty_62 : decode cX1_empty 62 = .ok (.bipush 12, 2) := by decide +kernel
theorem dX1_empty_64 : decode cX1_empty 64 = .ok (.if_icmp .ge 37, 3) := by decide +kernel
theorem dX1_empty_67 : decode cX1_empty 67 = .ok (.aload_n 0, 1) := by decide +kernel
theorem dX1_empty_68 : decode cX1_empty 68 = .ok (.getfield 55, 3) := by decide +kernel
theorem dX1_empty_71 : decode cX1_empty 71 = .ok (.iload_n 1, 1) := by decide +kernel
theorem dX1_empty_72 : decode cX1_empty 72 = .ok (.aaload, 1) := by decide +kernel
theorem dX1_empty_73 : decode cX1_empty 73 = .ok (.iload_n 2, 1) := by decide +kernel
theorem dX1_empty_74 : decode cX1_empty 74 = .ok (.iconst 0, 1) := by decide +kernel
theorem dX1_empty_75 : decode cX1_empty 75 = .ok (.iastore, 1) := by decide +kernel
theorem dX1_empty_76 : decode cX1_empty 76 = .ok (.aload_n 0, 1) := by decide +kernel
theorem dX1_empty_77 : decode cX1_empty 77 = .ok (.getfield 58, 3) := by decide +kernel
theorem dX1_empty_80 : decode cX1_empty 80 = .ok (.iload_n 1, 1) := by decide +kernel
theorem dX1_empty_81 : decode cX1_empty 81 = .ok (.aaload, 1) := by decide +kernel
theorem dX1_empty_82 : decode cX1_empty 82 = .ok (.iload_n 2, 1) := by decide +kernel
theorem dX1_empty_83 : decode cX1_empty 83 = .ok (.iload_n 1, 1) := by decide +kernel
theorem dX1_empty_84 : decode cX1_empty 84 = .ok (.iload_n 2, 1) := by decide +kernel
theorem dX1_empty_85 : decode cX1_empty 85 = .ok (.if_icmp .ne 7, 3) := by decide +kernel
theorem dX1_empty_88 : decode cX1_empty 88 = .ok (.iconst 0, 1) := by decide +kernel
theorem dX1_empty_89 : decode cX1_empty 89 = .ok (.goto 5, 3) := by decide +kernel
theorem dX1_empty_92 : decode cX1_empty 92 = .ok (.ldc 76, 2) := by decide +kernel
theorem dX1_empty_94 : decode cX1_empty 94 = .ok (.iastore, 1) := by decide +kernel
theorem dX1_empty_95 : decode cX1_empty 95 = .ok (.iinc 2 1, 3) := by decide +kernel
theorem dX1_empty_98 : decode cX1_empty 98 = .ok (.goto (-37), 3) := by decide +kernel
theorem dX1_empty_101 : decode cX1_empty 101 = .ok (.iinc 1 1, 3) := by decide +kernel
theorem dX1_empty_104 : decode cX1_empty 104 = .ok (.goto (-51), 3) := by decide +kernel
theorem dX1_empty_107 : decode cX1_empty 107 = .ok (.return_, 1) := by decide +kernel
theorem dX1_indexOf_0 : decode cX1_indexOf 0 = .ok (.iconst 0, 1) := by decide +kernel
theorem dX1_indexOf_1 : decode cX1_indexOf 1 = .ok (.istore 4, 2) := by decide +kernel
theorem dX1_indexOf_3 : decode cX1_indexOf 3 = .ok (.iload 4, 2) := by decide +kernel
theorem dX1_indexOf_5 : decode cX1_indexOf 5 = .ok (.iload_n 3, 1) := by decide +kernel
theorem dX1_indexOf_6 : decode cX1_indexOf 6 = .ok (.if_icmp .ge 28, 3) := by decide +kernel
theorem dX1_indexOf_9 : decode cX1_indexOf 9 = .ok (.iload 4, 2) := by decide +kernel
theorem dX1_indexOf_11 : decode cX1_indexOf 11 = .ok (.aload_n 2, 1) := by decide +kernel
theorem dX1_indexOf_12 : decode cX1_indexOf 12 = .ok (.arraylength, 1) := by decide +kernel
theorem dX1_indexOf_13 : decode cX1_indexOf 13 = .ok (.if_icmp .ge 21, 3) := by decide +kernel
theorem dX1_indexOf_16 : decode cX1_indexOf 16 = .ok (.aload_n 2, 1) := by decide +kernel
theorem dX1_indexOf_17 : decode cX1_indexOf 17 = .ok (.iload 4, 2) := by decide +kernel
theorem dX1_indexOf_19 : decode cX1_indexOf 19 = .ok (.laload, 1) := by decide +kernel
theorem dX1_indexOf_20 : decode cX1_indexOf 20 = .ok (.lload_n 0, 1) := by decide +kernel
theorem dX1_indexOf_21 : decode cX1_indexOf 21 = .ok (.lcmp, 1) := by decide +kernel
theorem dX1_indexOf_22 : decode cX1_indexOf 22 = .ok (.ifCond .ne 6, 3) := by decide +kernel
theorem dX1_indexOf_25 : decode cX1_indexOf 25 = .ok (.iload 4, 2) := by decide +kernel
theorem dX1_indexOf_27 : decode cX1_indexOf 27 = .ok (.ireturn, 1) := by decide +kernel
theorem dX1_indexOf_28 : decode cX1_indexOf 28 = .ok (.iinc 4 1, 3) := by decide +kernel
theorem dX1_indexOf_31 : decode cX1_indexOf 31 = .ok (.goto (-28), 3) := by decide +kernel
theorem dX1_indexOf_34 : decode cX1_indexOf 34 = .ok (.iconst (-1), 1) := by decide +kernel
theorem dX1_indexOf_35 : decode cX1_indexOf 35 = .ok (.ireturn, 1) := by decide +kernel
theorem dX1_placeNamed_0 : decode cX1_placeNamed 0 = .ok (.lload_n 1, 1) := by decide +kernel
theorem dX1_placeNamed_1 : decode cX1_placeNamed 1 = .ok (.aload_n 0, 1) := by decide +kernel
theorem dX1_placeNamed_2 : decode cX1_placeNamed 2 = .ok (.getfield 43, 3) := by decide +kernel
theorem dX1_placeNamed_5 : decode cX1_placeNamed 5 = .ok (.aload_n 0, 1) := by decide +kernel
theorem dX1_placeNamed_6 : decode cX1_placeNamed 6 = .ok (.getfield 15, 3) := by decide +kernel
theorem dX1_placeNamed_9 : decode cX1_placeNamed 9 = .ok (.invokestatic 77, 3) := by decide +kernel
theorem dX1_placeNamed_12 : decode cX1_placeNamed 12 = .ok (.ireturn, 1) := by decide +kernel
theorem dX1_carrierNamed_0 : decode cX1_carrierNamed 0 = .ok (.lload_n 1, 1) := by decide +kernel
theorem dX1_carrierNamed_1 : decode cX1_carrierNamed 1 = .ok (.aload_n 0, 1) := by decide +kernel
theorem dX1_carrierNamed_2 : decode cX1_carrierNamed 2 = .ok (.getfield 47, 3) := by decide +kernel
theorem dX1_carrierNamed_5 : decode cX1_carrierNamed 5 = .ok (.aload_n 0, 1) := by decide +kernel
theorem dX1_carrierNamed_6 : decode cX1_carrierNamed 6 = .ok (.getfield 18, 3) := by decide +kernel
theorem dX1_carrierNamed_9 : decode cX1_carrierNamed 9 = .ok (.invokestatic 77, 3) := by decide +kernel
theorem dX1_carrierNamed_12 : decode cX1_carrierNamed 12 = .ok (.ireturn, 1) := by decide +kernel
theorem dX1_knows_0 : decode cX1_knows 0 = .ok (.aload_n 0, 1) := by decide +kernel
theorem dX1_knows_1 : decode cX1_knows 1 = .ok (.lload_n 1, 1) := by decide +kernel
theorem dX1_knows_2 : decode cX1_knows 2 = .ok (.invokevirtual 81, 3) := by decide +kernel
theorem dX1_knows_5 : decode cX1_knows 5 = .ok (.iconst (-1), 1) := by decide +kernel
theorem dX1_knows_6 : decode cX1_knows 6 = .ok (.if_icmp .ne 28, 3) := by decide +kernel
theorem dX1_knows_9 : decode cX1_knows 9 = .ok (.aload_n 0, 1) := by decide +kernel
theorem dX1_knows_10 : decode cX1_knows 10 = .ok (.lload_n 1, 1) := by decide +kernel
theorem dX1_knows_11 : decode cX1_knows 11 = .ok (.invokevirtual 85, 3) := by decide +kernel
theorem dX1_knows_14 : decode cX1_knows 14 = .ok (.iconst (-1), 1) := by decide +kernel
theorem dX1_knows_15 : decode cX1_knows 15 = .ok (.if_icmp .ne 19, 3) := by decide +kernel
theorem dX1_knows_18 : decode cX1_knows 18 = .ok (.lload_n 1, 1) := by decide +kernel
theorem dX1_knows_19 : decode cX1_knows 19 = .ok (.aload_n 0, 1) := by decide +kernel
theorem dX1_knows_20 : decode cX1_knows 20 = .ok (.getfield 50, 3) := by decide +kernel
theorem dX1_knows_23 : decode cX1_knows 23 = .ok (.aload_n 0, 1) := by decide +kernel
theorem dX1_knows_24 : decode cX1_knows 24 = .ok (.getfield 40, 3) := by decide +kernel
theorem dX1_knows_27 : decode cX1_knows 27 = .ok (.invokestatic 77, 3) := by decide +kernel
theorem dX1_knows_30 : decode cX1_knows 30 = .ok (.iconst (-1), 1) := by decide +kernel
theorem dX1_knows_31 : decode cX1_knows 31 = .ok (.if_icmp .eq 7, 3) := by decide +kernel
theorem dX1_knows_34 : decode cX1_knows 34 = .ok (.iconst 1, 1) := by decide +kernel
theorem dX1_knows_35 : decode cX1_knows 35 = .ok (.goto 4, 3) := by decide +kernel
theorem dX1_knows_38 : decode cX1_knows 38 = .ok (.iconst 0, 1) := by decide +kernel
theorem dX1_knows_39 : decode cX1_knows 39 = .ok (.ireturn, 1) := by decide +kernel
theorem dX1_addPlace_0 : decode cX1_addPlace 0 = .ok (.aload_n 0, 1) := by decide +kernel
theorem dX1_addPlace_1 : decode cX1_addPlace 1 = .ok (.getfield 43, 3) := by decide +kernel
theorem dX1_addPlace_4 : decode cX1_addPlace 4 = .ok (.aload_n 0, 1) := by decide +kernel
theorem dX1_addPlace_5 : decode cX1_addPlace 5 = .ok (.getfield 15, 3) := by decide +kernel
theorem dX1_addPlace_8 : decode cX1_addPlace 8 = .ok (.lload_n 1, 1) := by decide +kernel
theorem dX1_addPlace_9 : decode cX1_addPlace 9 = .ok (.lastore, 1) := by decide +kernel
theorem dX1_addPlace_10 : decode cX1_addPlace 10 = .ok (.aload_n 0, 1) := by decide +kernel
theorem dX1_addPlace_11 : decode cX1_addPlace 11 = .ok (.dup, 1) := by decide +kernel
theorem dX1_addPlace_12 : decode cX1_addPlace 12 = .ok (.getfield 15, 3) := by decide +kernel
theorem dX1_addPlace_15 : decode cX1_addPlace 15 = .ok (.iconst 1, 1) := by decide +kernel
theorem dX1_addPlace_16 : decode cX1_addPlace 16 = .ok (.iadd, 1) := by decide +kernel
theorem dX1_addPlace_17 : decode cX1_addPlace 17 = .ok (.putfield 15, 3) := by decide +kernel
theorem dX1_addPlace_20 : decode cX1_addPlace 20 = .ok (.return_, 1) := by decide +kernel
theorem dX1_addCarrier_0 : decode cX1_addCarrier 0 = .ok (.aload_n 0, 1) := by decide +kernel
theorem dX1_addCarrier_1 : decode cX1_addCarrier 1 = .ok (.getfield 47, 3) := by decide +kernel
theorem dX1_addCarrier_4 : decode cX1_addCarrier 4 = .ok (.aload_n 0, 1) := by decide +kernel
theorem dX1_addCarrier_5 : decode cX1_addCarrier 5 = .ok (.getfield 18, 3) := by decide +kernel
theorem dX1_addCarrier_8 : decode cX1_addCarrier 8 = .ok (.lload_n 1, 1) := by decide +kernel
theorem dX1_addCarrier_9 : decode cX1_addCarrier 9 = .ok (.lastore, 1) := by decide +kernel
theorem dX1_addCarrier_10 : decode cX1_addCarrier 10 = .ok (.aload_n 0, 1) := by decide +kernel
theorem dX1_addCarrier_11 : decode cX1_addCarrier 11 = .ok (.dup, 1) := by decide +kernel
theorem dX1_addCarrier_12 : decode cX1_addCarrier 12 = .ok (.getfield 18, 3) := by decide +kernel
theorem dX1_addCarrier_15 : decode cX1_addCarrier 15 = .ok (.iconst 1, 1) := by decide +kernel
theorem dX1_addCarrier_16 : decode cX1_addCarrier 16 = .ok (.iadd, 1) := by decide +kernel
theorem dX1_addCarrier_17 : decode cX1_addCarrier 17 = .ok (.putfield 18, 3) := by decide +kernel
theorem dX1_addCarrier_20 : decode cX1_addCarrier 20 = .ok (.return_, 1) := by decide +kernel
theorem dX1_addLeg_0 : decode cX1_addLeg 0 = .ok (.aload_n 0, 1) := by decide +kernel
theorem dX1_addLeg_1 : decode cX1_addLeg 1 = .ok (.getfield 55, 3) := by decide +kernel
theorem dX1_addLeg_4 : decode cX1_addLeg 4 = .ok (.iload_n 1, 1) := by decide +kernel
theorem dX1_addLeg_5 : decode cX1_addLeg 5 = .ok (.aaload, 1) := by decide +kernel
theorem dX1_addLeg_6 : decode cX1_addLeg 6 = .ok (.iload_n 2, 1) := by decide +kernel
theorem dX1_addLeg_7 : decode cX1_addLeg 7 = .ok (.iload_n 3, 1) := by decide +kernel
theorem dX1_addLeg_8 : decode cX1_addLeg 8 = .ok (.iastore, 1) := by decide +kernel
theorem dX1_addLeg_9 : decode cX1_addLeg 9 = .ok (.aload_n 0, 1) := by decide +kernel
theorem dX1_addLeg_10 : decode cX1_addLeg 10 = .ok (.getfield 55, 3) := by decide +kernel
theorem dX1_addLeg_13 : decode cX1_addLeg 13 = .ok (.iload_n 2, 1) := by decide +kernel
theorem dX1_addLeg_14 : decode cX1_addLeg 14 = .ok (.aaload, 1) := by decide +kernel
theorem dX1_addLeg_15 : decode cX1_addLeg 15 = .ok (.iload_n 1, 1) := by decide +kernel
theorem dX1_addLeg_16 : decode cX1_addLeg 16 = .ok (.iload_n 3, 1) := by decide +kernel
theorem dX1_addLeg_17 : decode cX1_addLeg 17 = .ok (.iastore, 1) := by decide +kernel
theorem dX1_addLeg_18 : decode cX1_addLeg 18 = .ok (.aload_n 0, 1) := by decide +kernel
theorem dX1_addLeg_19 : decode cX1_addLeg 19 = .ok (.dup, 1) := by decide +kernel
theorem dX1_addLeg_20 : decode cX1_addLeg 20 = .ok (.getfield 21, 3) := by decide +kernel
theorem dX1_addLeg_23 : decode cX1_addLeg 23 = .ok (.iconst 1, 1) := by decide +kernel
theorem dX1_addLeg_24 : decode cX1_addLeg 24 = .ok (.iadd, 1) := by decide +kernel
theorem dX1_addLeg_25 : decode cX1_addLeg 25 = .ok (.putfield 21, 3) := by decide +kernel
theorem dX1_addLeg_28 : decode cX1_addLeg 28 = .ok (.iconst 0, 1) := by decide +kernel
theorem dX1_addLeg_29 : decode cX1_addLeg 29 = .ok (.istore 4, 2) := by decide +kernel
theorem dX1_addLeg_31 : decode cX1_addLeg 31 = .ok (.iload 4, 2) := by decide +kernel
theorem dX1_addLeg_33 : decode cX1_addLeg 33 = .ok (.aload_n 0, 1) := by decide +kernel
theorem dX1_addLeg_34 : decode cX1_addLeg 34 = .ok (.getfield 15, 3) := by decide +kernel
theorem dX1_addLeg_37 : decode cX1_addLeg 37 = .ok (.if_icmp .ge 103, 3) := by decide +kernel
theorem dX1_addLeg_40 : decode cX1_addLeg 40 = .ok (.iconst 0, 1) := by decide +kernel
theorem dX1_addLeg_41 : decode cX1_addLeg 41 = .ok (.istore 5, 2) := by decide +kernel
theorem dX1_addLeg_43 : decode cX1_addLeg 43 = .ok (.iload 5, 2) := by decide +kernel
theorem dX1_addLeg_45 : decode cX1_addLeg 45 = .ok (.aload_n 0, 1) := by decide +kernel
theorem dX1_addLeg_46 : decode cX1_addLeg 46 = .ok (.getfield 15, 3) := by decide +kernel
theorem dX1_addLeg_49 : decode cX1_addLeg 49 = .ok (.if_icmp .ge 85, 3) := by decide +kernel
theorem dX1_addLeg_52 : decode cX1_addLeg 52 = .ok (.aload_n 0, 1) := by decide +kernel
theorem dX1_addLeg_53 : decode cX1_addLeg 53 = .ok (.getfield 58, 3) := by decide +kernel
theorem dX1_addLeg_56 : decode cX1_addLeg 56 = .ok (.iload 4, 2) := by decide +kernel
theorem dX1_addLeg_58 : decode cX1_addLeg 58 = .ok (.aaload, 1) := by decide +kernel
theorem dX1_addLeg_59 : decode cX1_addLeg 59 = .ok (.iload_n 1, 1) := by decide +kernel
theorem dX1_addLeg_60 : decode cX1_addLeg 60 = .ok (.iaload, 1) := by decide +kernel
theorem dX1_addLeg_61 : decode cX1_addLeg 61 = .ok (.iload_n 3, 1) := by decide +kernel
theorem dX1_addLeg_62 : decode cX1_addLeg 62 = .ok (.iadd, 1) := by decide +kernel
theorem dX1_addLeg_63 : decode cX1_addLeg 63 = .ok (.aload_n 0, 1) := by decide +kernel
theorem dX1_addLeg_64 : decode cX1_addLeg 64 = .ok (.getfield 58, 3) := by decide +kernel
theorem dX1_addLeg_67 : decode cX1_addLeg 67 = .ok (.iload_n 2, 1) := by decide +kernel
theorem dX1_addLeg_68 : decode cX1_addLeg 68 = .ok (.aaload, 1) := by decide +kernel
theorem dX1_addLeg_69 : decode cX1_addLeg 69 = .ok (.iload 5, 2) := by decide +kernel
theorem dX1_addLeg_71 : decode cX1_addLeg 71 = .ok (.iaload, 1) := by decide +kernel
theorem dX1_addLeg_72 : decode cX1_addLeg 72 = .ok (.iadd, 1) := by decide +kernel
theorem dX1_addLeg_73 : decode cX1_addLeg 73 = .ok (.istore 6, 2) := by decide +kernel
theorem dX1_addLeg_75 : decode cX1_addLeg 75 = .ok (.aload_n 0, 1) := by decide +kernel
theorem dX1_addLeg_76 : decode cX1_addLeg 76 = .ok (.getfield 58, 3) := by decide +kernel
theorem dX1_addLeg_79 : decode cX1_addLeg 79 = .ok (.iload 4, 2) := by decide +kernel
theorem dX1_addLeg_81 : decode cX1_addLeg 81 = .ok (.aaload, 1) := by decide +kernel
theorem dX1_addLeg_82 : decode cX1_addLeg 82 = .ok (.iload_n 2, 1) := by decide +kernel
theorem dX1_addLeg_83 : decode cX1_addLeg 83 = .ok (.iaload, 1) := by decide +kernel
theorem dX1_addLeg_84 : decode cX1_addLeg 84 = .ok (.iload_n 3, 1) := by decide +kernel
theorem dX1_addLeg_85 : decode cX1_addLeg 85 = .ok (.iadd, 1) := by decide +kernel
theorem dX1_addLeg_86 : decode cX1_addLeg 86 = .ok (.aload_n 0, 1) := by decide +kernel
theorem dX1_addLeg_87 : decode cX1_addLeg 87 = .ok (.getfield 58, 3) := by decide +kernel
theorem dX1_addLeg_90 : decode cX1_addLeg 90 = .ok (.iload_n 1, 1) := by decide +kernel
theorem dX1_addLeg_91 : decode cX1_addLeg 91 = .ok (.aaload, 1) := by decide +kernel
theorem dX1_addLeg_92 : decode cX1_addLeg 92 = .ok (.iload 5, 2) := by decide +kernel
theorem dX1_addLeg_94 : decode cX1_addLeg 94 = .ok (.iaload, 1) := by decide +kernel
theorem dX1_addLeg_95 : decode cX1_addLeg 95 = .ok (.iadd, 1) := by decide +kernel
theorem dX1_addLeg_96 : decode cX1_addLeg 96 = .ok (.istore 7, 2) := by decide +kernel
theorem dX1_addLeg_98 : decode cX1_addLeg 98 = .ok (.aload_n 0, 1) := by decide +kernel
theorem dX1_addLeg_99 : decode cX1_addLeg 99 = .ok (.getfield 58, 3) := by decide +kernel
theorem dX1_addLeg_102 : decode cX1_addLeg 102 = .ok (.iload 4, 2) := by decide +kernel
theorem dX1_addLeg_104 : decode cX1_addLeg 104 = .ok (.aaload, 1) := by decide +kernel
theorem dX1_addLeg_105 : decode cX1_addLeg 105 = .ok (.iload 5, 2) := by decide +kernel
theorem dX1_addLeg_107 : decode cX1_addLeg 107 = .ok (.aload_n 0, 1) := by decide +kernel
theorem dX1_addLeg_108 : decode cX1_addLeg 108 = .ok (.getfield 58, 3) := by decide +kernel
theorem dX1_addLeg_111 : decode cX1_addLeg 111 = .ok (.iload 4, 2) := by decide +kernel
theorem dX1_addLeg_113 : decode cX1_addLeg 113 = .ok (.aaload, 1) := by decide +kernel
theorem dX1_addLeg_114 : decode cX1_addLeg 114 = .ok (.iload 5, 2) := by decide +kernel
theorem dX1_addLeg_116 : decode cX1_addLeg 116 = .ok (.iaload, 1) := by decide +kernel
theorem dX1_addLeg_117 : decode cX1_addLeg 117 = .ok (.iload 6, 2) := by decide +kernel
theorem dX1_addLeg_119 : decode cX1_addLeg 119 = .ok (.iload 7, 2) := by decide +kernel
theorem dX1_addLeg_121 : decode cX1_addLeg 121 = .ok (.invokestatic 88, 3) := by decide +kernel
theorem dX1_addLeg_124 : decode cX1_addLeg 124 = .ok (.invokestatic 88, 3) := by decide +kernel
theorem dX1_addLeg_127 : decode cX1_addLeg 127 = .ok (.iastore, 1) := by decide +kernel
theorem dX1_addLeg_128 : decode cX1_addLeg 128 = .ok (.iinc 5 1, 3) := by decide +kernel
theorem dX1_addLeg_131 : decode cX1_addLeg 131 = .ok (.goto (-88), 3) := by decide +kernel
theorem dX1_addLeg_134 : decode cX1_addLeg 134 = .ok (.iinc 4 1, 3) := by decide +kernel
theorem dX1_addLeg_137 : decode cX1_addLeg 137 = .ok (.goto (-106), 3) := by decide +kernel
theorem dX1_addLeg_140 : decode cX1_addLeg 140 = .ok (.return_, 1) := by decide +kernel
theorem dX1_lastBand_0 : decode cX1_lastBand 0 = .ok (.aload_n 0, 1) := by decide +kernel
theorem dX1_lastBand_1 : decode cX1_lastBand 1 = .ok (.getfield 24, 3) := by decide +kernel
theorem dX1_lastBand_4 : decode cX1_lastBand 4 = .ok (.ifCond .le 19, 3) := by decide +kernel
theorem dX1_lastBand_7 : decode cX1_lastBand 7 = .ok (.aload_n 0, 1) := by decide +kernel
theorem dX1_lastBand_8 : decode cX1_lastBand 8 = .ok (.getfield 61, 3) := by decide +kernel
theorem dX1_lastBand_11 : decode cX1_lastBand 11 = .ok (.aload_n 0, 1) := by decide +kernel
theorem dX1_lastBand_12 : decode cX1_lastBand 12 = .ok (.getfield 24, 3) := by decide +kernel
theorem dX1_lastBand_15 : decode cX1_lastBand 15 = .ok (.iconst 1, 1) := by decide +kernel
theorem dX1_lastBand_16 : decode cX1_lastBand 16 = .ok (.isub, 1) := by decide +kernel
theorem dX1_lastBand_17 : decode cX1_lastBand 17 = .ok (.aaload, 1) := by decide +kernel
theorem dX1_lastBand_18 : decode cX1_lastBand 18 = .ok (.iconst 0, 1) := by decide +kernel
theorem dX1_lastBand_19 : decode cX1_lastBand 19 = .ok (.iaload, 1) := by decide +kernel
theorem dX1_lastBand_20 : decode cX1_lastBand 20 = .ok (.goto 4, 3) := by decide +kernel
theorem dX1_lastBand_23 : decode cX1_lastBand 23 = .ok (.iconst 0, 1) := by decide +kernel
theorem dX1_lastBand_24 : decode cX1_lastBand 24 = .ok (.ireturn, 1) := by decide +kernel
theorem dX1_addBand_0 : decode cX1_addBand 0 = .ok (.aload_n 0, 1) := by decide +kernel
theorem dX1_addBand_1 : decode cX1_addBand 1 = .ok (.getfield 61, 3) := by decide +kernel
theorem dX1_addBand_4 : decode cX1_addBand 4 = .ok (.aload_n 0, 1) := by decide +kernel
theorem dX1_addBand_5 : decode cX1_addBand 5 = .ok (.getfield 24, 3) := by decide +kernel
theorem dX1_addBand_8 : decode cX1_addBand 8 = .ok (.aaload, 1) := by decide +kernel
theorem dX1_addBand_9 : decode cX1_addBand 9 = .ok (.iconst 0, 1) := by decide +kernel
theorem dX1_addBand_10 : decode cX1_addBand 10 = .ok (.iload_n 1, 1) := by decide +kernel
theorem dX1_addBand_11 : decode cX1_addBand 11 = .ok (.iastore, 1) := by decide +kernel
theorem dX1_addBand_12 : decode cX1_addBand 12 = .ok (.aload_n 0, 1) := by decide +kernel
theorem dX1_addBand_13 : decode cX1_addBand 13 = .ok (.getfield 61, 3) := by decide +kernel
theorem dX1_addBand_16 : decode cX1_addBand 16 = .ok (.aload_n 0, 1) := by decide +kernel
theorem dX1_addBand_17 : decode cX1_addBand 17 = .ok (.getfield 24, 3) := by decide +kernel
theorem dX1_addBand_20 : decode cX1_addBand 20 = .ok (.aaload, 1) := by decide +kernel
theorem dX1_addBand_21 : decode cX1_addBand 21 = .ok (.iconst 1, 1) := by decide +kernel
theorem dX1_addBand_22 : decode cX1_addBand 22 = .ok (.iload_n 2, 1) := by decide +kernel
theorem dX1_addBand_23 : decode cX1_addBand 23 = .ok (.iastore, 1) := by decide +kernel
theorem dX1_addBand_24 : decode cX1_addBand 24 = .ok (.aload_n 0, 1) := by decide +kernel
theorem dX1_addBand_25 : decode cX1_addBand 25 = .ok (.dup, 1) := by decide +kernel
theorem dX1_addBand_26 : decode cX1_addBand 26 = .ok (.getfield 24, 3) := by decide +kernel
theorem dX1_addBand_29 : decode cX1_addBand 29 = .ok (.iconst 1, 1) := by decide +kernel
theorem dX1_addBand_30 : decode cX1_addBand 30 = .ok (.iadd, 1) := by decide +kernel
theorem dX1_addBand_31 : decode cX1_addBand 31 = .ok (.putfield 24, 3) := by decide +kernel
theorem dX1_addBand_34 : decode cX1_addBand 34 = .ok (.return_, 1) := by decide +kernel
theorem dX1_addProviso_0 : decode cX1_addProviso 0 = .ok (.aload_n 0, 1) := by decide +kernel
theorem dX1_addProviso_1 : decode cX1_addProviso 1 = .ok (.getfield 64, 3) := by decide +kernel
theorem dX1_addProviso_4 : decode cX1_addProviso 4 = .ok (.aload_n 0, 1) := by decide +kernel
theorem dX1_addProviso_5 : decode cX1_addProviso 5 = .ok (.getfield 27, 3) := by decide +kernel
theorem dX1_addProviso_8 : decode cX1_addProviso 8 = .ok (.aaload, 1) := by decide +kernel
theorem dX1_addProviso_9 : decode cX1_addProviso 9 = .ok (.astore 7, 2) := by decide +kernel
theorem dX1_addProviso_11 : decode cX1_addProviso 11 = .ok (.aload 7, 2) := by decide +kernel
theorem dX1_addProviso_13 : decode cX1_addProviso 13 = .ok (.iconst 0, 1) := by decide +kernel
theorem dX1_addProviso_14 : decode cX1_addProviso 14 = .ok (.iload_n 1, 1) := by decide +kernel
theorem dX1_addProviso_15 : decode cX1_addProviso 15 = .ok (.iastore, 1) := by decide +kernel
theorem dX1_addProviso_16 : decode cX1_addProviso 16 = .ok (.aload 7, 2) := by decide +kernel
theorem dX1_addProviso_18 : decode cX1_addProviso 18 = .ok (.iconst 1, 1) := by decide +kernel
theorem dX1_addProviso_19 : decode cX1_addProviso 19 = .ok (.iload_n 2, 1) := by decide +kernel
theorem dX1_addProviso_20 : decode cX1_addProviso 20 = .ok (.iastore, 1) := by decide +kernel
theorem dX1_addProviso_21 : decode cX1_addProviso 21 = .ok (.aload 7, 2) := by decide +kernel
theorem dX1_addProviso_23 : decode cX1_addProviso 23 = .ok (.iconst 2, 1) := by decide +kernel
theorem dX1_addProviso_24 : decode cX1_addProviso 24 = .ok (.iload_n 3, 1) := by decide +kernel
theorem dX1_addProviso_25 : decode cX1_addProviso 25 = .ok (.iastore, 1) := by decide +kernel
theorem dX1_addProviso_26 : decode cX1_addProviso 26 = .ok (.aload 7, 2) := by decide +kernel
theorem dX1_addProviso_28 : decode cX1_addProviso 28 = .ok (.iconst 3, 1) := by decide +kernel
theorem dX1_addProviso_29 : decode cX1_addProviso 29 = .ok (.iload 4, 2) := by decide +kernel
theorem dX1_addProviso_31 : decode cX1_addProviso 31 = .ok (.iastore, 1) := by decide +kernel
theorem dX1_addProviso_32 : decode cX1_addProviso 32 = .ok (.aload 7, 2) := by decide +kernel
theorem dX1_addProviso_34 : decode cX1_addProviso 34 = .ok (.iconst 4, 1) := by decide +kernel
theorem dX1_addProviso_35 : decode cX1_addProviso 35 = .ok (.iload 5, 2) := by decide +kernel
theorem dX1_addProviso_37 : decode cX1_addProviso 37 = .ok (.iastore, 1) := by decide +kernel
theorem dX1_addProviso_38 : decode cX1_addProviso 38 = .ok (.aload 7, 2) := by decide +kernel
theorem dX1_addProviso_40 : decode cX1_addProviso 40 = .ok (.iconst 5, 1) := by decide +kernel
theorem dX1_addProviso_41 : decode cX1_addProviso 41 = .ok (.iload 6, 2) := by decide +kernel
theorem dX1_addProviso_43 : decode cX1_addProviso 43 = .ok (.iastore, 1) := by decide +kernel
theorem dX1_addProviso_44 : decode cX1_addProviso 44 = .ok (.aload_n 0, 1) := by decide +kernel
theorem dX1_addProviso_45 : decode cX1_addProviso 45 = .ok (.dup, 1) := by decide +kernel
theorem dX1_addProviso_46 : decode cX1_addProviso 46 = .ok (.getfield 27, 3) := by decide +kernel
theorem dX1_addProviso_49 : decode cX1_addProviso 49 = .ok (.iconst 1, 1) := by decide +kernel
theorem dX1_addProviso_50 : decode cX1_addProviso 50 = .ok (.iadd, 1) := by decide +kernel
theorem dX1_addProviso_51 : decode cX1_addProviso 51 = .ok (.putfield 27, 3) := by decide +kernel
theorem dX1_addProviso_54 : decode cX1_addProviso 54 = .ok (.return_, 1) := by decide +kernel
theorem dX1_addBase_0 : decode cX1_addBase 0 = .ok (.aload_n 0, 1) := by decide +kernel
theorem dX1_addBase_1 : decode cX1_addBase 1 = .ok (.getfield 67, 3) := by decide +kernel
theorem dX1_addBase_4 : decode cX1_addBase 4 = .ok (.aload_n 0, 1) := by decide +kernel
theorem dX1_addBase_5 : decode cX1_addBase 5 = .ok (.getfield 30, 3) := by decide +kernel
theorem dX1_addBase_8 : decode cX1_addBase 8 = .ok (.aaload, 1) := by decide +kernel
theorem dX1_addBase_9 : decode cX1_addBase 9 = .ok (.astore 5, 2) := by decide +kernel
theorem dX1_addBase_11 : decode cX1_addBase 11 = .ok (.aload 5, 2) := by decide +kernel
theorem dX1_addBase_13 : decode cX1_addBase 13 = .ok (.iconst 0, 1) := by decide +kernel
theorem dX1_addBase_14 : decode cX1_addBase 14 = .ok (.iload_n 1, 1) := by decide +kernel
theorem dX1_addBase_15 : decode cX1_addBase 15 = .ok (.iastore, 1) := by decide +kernel
theorem dX1_addBase_16 : decode cX1_addBase 16 = .ok (.aload 5, 2) := by decide +kernel
theorem dX1_addBase_18 : decode cX1_addBase 18 = .ok (.iconst 1, 1) := by decide +kernel
theorem dX1_addBase_19 : decode cX1_addBase 19 = .ok (.iload_n 2, 1) := by decide +kernel
theorem dX1_addBase_20 : decode cX1_addBase 20 = .ok (.iastore, 1) := by decide +kernel
theorem dX1_addBase_21 : decode cX1_addBase 21 = .ok (.aload 5, 2) := by decide +kernel
theorem dX1_addBase_23 : decode cX1_addBase 23 = .ok (.iconst 2, 1) := by decide +kernel
theorem dX1_addBase_24 : decode cX1_addBase 24 = .ok (.iload_n 3, 1) := by decide +kernel
theorem dX1_addBase_25 : decode cX1_addBase 25 = .ok (.iastore, 1) := by decide +kernel
theorem dX1_addBase_26 : decode cX1_addBase 26 = .ok (.aload 5, 2) := by decide +kernel
theorem dX1_addBase_28 : decode cX1_addBase 28 = .ok (.iconst 3, 1) := by decide +kernel
theorem dX1_addBase_29 : decode cX1_addBase 29 = .ok (.iload 4, 2) := by decide +kernel
theorem dX1_addBase_31 : decode cX1_addBase 31 = .ok (.iastore, 1) := by decide +kernel
theorem dX1_addBase_32 : decode cX1_addBase 32 = .ok (.aload_n 0, 1) := by decide +kernel
theorem dX1_addBase_33 : decode cX1_addBase 33 = .ok (.dup, 1) := by decide +kernel
theorem dX1_addBase_34 : decode cX1_addBase 34 = .ok (.getfield 30, 3) := by decide +kernel
theorem dX1_addBase_37 : decode cX1_addBase 37 = .ok (.iconst 1, 1) := by decide +kernel
theorem dX1_addBase_38 : decode cX1_addBase 38 = .ok (.iadd, 1) := by decide +kernel
theorem dX1_addBase_39 : decode cX1_addBase 39 = .ok (.putfield 30, 3) := by decide +kernel
theorem dX1_addBase_42 : decode cX1_addBase 42 = .ok (.return_, 1) := by decide +kernel
theorem dX1_beginTicket_0 : decode cX1_beginTicket 0 = .ok (.aload_n 0, 1) := by decide +kernel
theorem dX1_beginTicket_1 : decode cX1_beginTicket 1 = .ok (.getfield 70, 3) := by decide +kernel
theorem dX1_beginTicket_4 : decode cX1_beginTicket 4 = .ok (.aload_n 0, 1) := by decide +kernel
theorem dX1_beginTicket_5 : decode cX1_beginTicket 5 = .ok (.getfield 40, 3) := by decide +kernel
theorem dX1_beginTicket_8 : decode cX1_beginTicket 8 = .ok (.aaload, 1) := by decide +kernel
theorem dX1_beginTicket_9 : decode cX1_beginTicket 9 = .ok (.iconst 0, 1) := by decide +kernel
theorem dX1_beginTicket_10 : decode cX1_beginTicket 10 = .ok (.iload_n 1, 1) := by decide +kernel
theorem dX1_beginTicket_11 : decode cX1_beginTicket 11 = .ok (.iastore, 1) := by decide +kernel
theorem dX1_beginTicket_12 : decode cX1_beginTicket 12 = .ok (.aload_n 0, 1) := by decide +kernel
theorem dX1_beginTicket_13 : decode cX1_beginTicket 13 = .ok (.getfield 70, 3) := by decide +kernel
theorem dX1_beginTicket_16 : decode cX1_beginTicket 16 = .ok (.aload_n 0, 1) := by decide +kernel
theorem dX1_beginTicket_17 : decode cX1_beginTicket 17 = .ok (.getfield 40, 3) := by decide +kernel
theorem dX1_beginTicket_20 : decode cX1_beginTicket 20 = .ok (.aaload, 1) := by decide +kernel
theorem dX1_beginTicket_21 : decode cX1_beginTicket 21 = .ok (.iconst 1, 1) := by decide +kernel
theorem dX1_beginTicket_22 : decode cX1_beginTicket 22 = .ok (.iload_n 2, 1) := by decide +kernel
theorem dX1_beginTicket_23 : decode cX1_beginTicket 23 = .ok (.iastore, 1) := by decide +kernel
theorem dX1_beginTicket_24 : decode cX1_beginTicket 24 = .ok (.aload_n 0, 1) := by decide +kernel
theorem dX1_beginTicket_25 : decode cX1_beginTicket 25 = .ok (.getfield 70, 3) := by decide +kernel
theorem dX1_beginTicket_28 : decode cX1_beginTicket 28 = .ok (.aload_n 0, 1) := by decide +kernel
theorem dX1_beginTicket_29 : decode cX1_beginTicket 29 = .ok (.getfield 40, 3) := by decide +kernel
theorem dX1_beginTicket_32 : decode cX1_beginTicket 32 = .ok (.aaload, 1) := by decide +kernel
theorem dX1_beginTicket_33 : decode cX1_beginTicket 33 = .ok (.iconst 2, 1) := by decide +kernel
theorem dX1_beginTicket_34 : decode cX1_beginTicket 34 = .ok (.iconst 0, 1) := by decide +kernel
theorem dX1_beginTicket_35 : decode cX1_beginTicket 35 = .ok (.iastore, 1) := by decide +kernel
theorem dX1_beginTicket_36 : decode cX1_beginTicket 36 = .ok (.aload_n 0, 1) := by decide +kernel
theorem dX1_beginTicket_37 : decode cX1_beginTicket 37 = .ok (.getfield 73, 3) := by decide +kernel
theorem dX1_beginTicket_40 : decode cX1_beginTicket 40 = .ok (.aload_n 0, 1) := by decide +kernel
theorem dX1_beginTicket_41 : decode cX1_beginTicket 41 = .ok (.getfield 40, 3) := by decide +kernel
theorem dX1_beginTicket_44 : decode cX1_beginTicket 44 = .ok (.aaload, 1) := by decide +kernel
theorem dX1_beginTicket_45 : decode cX1_beginTicket 45 = .ok (.iconst 0, 1) := by decide +kernel
theorem dX1_beginTicket_46 : decode cX1_beginTicket 46 = .ok (.iload_n 3, 1) := by decide +kernel
theorem dX1_beginTicket_47 : decode cX1_beginTicket 47 = .ok (.iastore, 1) := by decide +kernel
theorem dX1_beginTicket_48 : decode cX1_beginTicket 48 = .ok (.return_, 1) := by decide +kernel
theorem dX1_addCoupon_0 : decode cX1_addCoupon 0 = .ok (.aload_n 0, 1) := by decide +kernel
theorem dX1_addCoupon_1 : decode cX1_addCoupon 1 = .ok (.getfield 70, 3) := by decide +kernel
theorem dX1_addCoupon_4 : decode cX1_addCoupon 4 = .ok (.aload_n 0, 1) := by decide +kernel
theorem dX1_addCoupon_5 : decode cX1_addCoupon 5 = .ok (.getfield 40, 3) := by decide +kernel
theorem dX1_addCoupon_8 : decode cX1_addCoupon 8 = .ok (.aaload, 1) := by decide +kernel
theorem dX1_addCoupon_9 : decode cX1_addCoupon 9 = .ok (.iconst 2, 1) := by decide +kernel
theorem dX1_addCoupon_10 : decode cX1_addCoupon 10 = .ok (.iload_n 1, 1) := by decide +kernel
theorem dX1_addCoupon_11 : decode cX1_addCoupon 11 = .ok (.iconst 1, 1) := by decide +kernel
theorem dX1_addCoupon_12 : decode cX1_addCoupon 12 = .ok (.iadd, 1) := by decide +kernel
theorem dX1_addCoupon_13 : decode cX1_addCoupon 13 = .ok (.iastore, 1) := by decide +kernel
theorem dX1_addCoupon_14 : decode cX1_addCoupon 14 = .ok (.aload_n 0, 1) := by decide +kernel
theorem dX1_addCoupon_15 : decode cX1_addCoupon 15 = .ok (.getfield 70, 3) := by decide +kernel
theorem dX1_addCoupon_18 : decode cX1_addCoupon 18 = .ok (.aload_n 0, 1) := by decide +kernel
theorem dX1_addCoupon_19 : decode cX1_addCoupon 19 = .ok (.getfield 40, 3) := by decide +kernel
theorem dX1_addCoupon_22 : decode cX1_addCoupon 22 = .ok (.aaload, 1) := by decide +kernel
theorem dX1_addCoupon_23 : decode cX1_addCoupon 23 = .ok (.iconst 3, 1) := by decide +kernel
theorem dX1_addCoupon_24 : decode cX1_addCoupon 24 = .ok (.iload_n 1, 1) := by decide +kernel
theorem dX1_addCoupon_25 : decode cX1_addCoupon 25 = .ok (.iadd, 1) := by decide +kernel
theorem dX1_addCoupon_26 : decode cX1_addCoupon 26 = .ok (.iload_n 2, 1) := by decide +kernel
theorem dX1_addCoupon_27 : decode cX1_addCoupon 27 = .ok (.iastore, 1) := by decide +kernel
theorem dX1_addCoupon_28 : decode cX1_addCoupon 28 = .ok (.aload_n 0, 1) := by decide +kernel
theorem dX1_addCoupon_29 : decode cX1_addCoupon 29 = .ok (.getfield 73, 3) := by decide +kernel
theorem dX1_addCoupon_32 : decode cX1_addCoupon 32 = .ok (.aload_n 0, 1) := by decide +kernel
theorem dX1_addCoupon_33 : decode cX1_addCoupon 33 = .ok (.getfield 40, 3) := by decide +kernel
theorem dX1_addCoupon_36 : decode cX1_addCoupon 36 = .ok (.aaload, 1) := by decide +kernel
theorem dX1_addCoupon_37 : decode cX1_addCoupon 37 = .ok (.iload_n 1, 1) := by decide +kernel
theorem dX1_addCoupon_38 : decode cX1_addCoupon 38 = .ok (.iconst 1, 1) := by decide +kernel
theorem dX1_addCoupon_39 : decode cX1_addCoupon 39 = .ok (.iadd, 1) := by decide +kernel
theorem dX1_addCoupon_40 : decode cX1_addCoupon 40 = .ok (.iload_n 3, 1) := by decide +kernel
theorem dX1_addCoupon_41 : decode cX1_addCoupon 41 = .ok (.iastore, 1) := by decide +kernel
theorem dX1_addCoupon_42 : decode cX1_addCoupon 42 = .ok (.return_, 1) := by decide +kernel
theorem dX1_endTicket_0 : decode cX1_endTicket 0 = .ok (.aload_n 0, 1) := by decide +kernel
theorem dX1_endTicket_1 : decode cX1_endTicket 1 = .ok (.getfield 50, 3) := by decide +kernel
theorem dX1_endTicket_4 : decode cX1_endTicket 4 = .ok (.aload_n 0, 1) := by decide +kernel
theorem dX1_endTicket_5 : decode cX1_endTicket 5 = .ok (.getfield 40, 3) := by decide +kernel
theorem dX1_endTicket_8 : decode cX1_endTicket 8 = .ok (.lload_n 1, 1) := by decide +kernel
theorem dX1_endTicket_9 : decode cX1_endTicket 9 = .ok (.lastore, 1) := by decide +kernel
theorem dX1_endTicket_10 : decode cX1_endTicket 10 = .ok (.aload_n 0, 1) := by decide +kernel
theorem dX1_endTicket_11 : decode cX1_endTicket 11 = .ok (.dup, 1) := by decide +kernel
theorem dX1_endTicket_12 : decode cX1_endTicket 12 = .ok (.getfield 40, 3) := by decide +kernel
theorem dX1_endTicket_15 : decode cX1_endTicket 15 = .ok (.iconst 1, 1) := by decide +kernel
theorem dX1_endTicket_16 : decode cX1_endTicket 16 = .ok (.iadd, 1) := by decide +kernel
theorem dX1_endTicket_17 : decode cX1_endTicket 17 = .ok (.putfield 40, 3) := by decide +kernel
theorem dX1_endTicket_20 : decode cX1_endTicket 20 = .ok (.return_, 1) := by decide +kernel
theorem dX1_hasWay_0 : decode cX1_hasWay 0 = .ok (.aload_n 0, 1) := by decide +kernel
theorem dX1_hasWay_1 : decode cX1_hasWay 1 = .ok (.getfield 58, 3) := by decide +kernel
theorem dX1_hasWay_4 : decode cX1_hasWay 4 = .ok (.iload_n 1, 1) := by decide +kernel
theorem dX1_hasWay_5 : decode cX1_hasWay 5 = .ok (.aaload, 1) := by decide +kernel
theorem dX1_hasWay_6 : decode cX1_hasWay 6 = .ok (.iload_n 2, 1) := by decide +kernel
theorem dX1_hasWay_7 : decode cX1_hasWay 7 = .ok (.iaload, 1) := by decide +kernel
theorem dX1_hasWay_8 : decode cX1_hasWay 8 = .ok (.ldc 76, 2) := by decide +kernel
theorem dX1_hasWay_10 : decode cX1_hasWay 10 = .ok (.if_icmp .ge 7, 3) := by decide +kernel
theorem dX1_hasWay_13 : decode cX1_hasWay 13 = .ok (.iconst 1, 1) := by decide +kernel
theorem dX1_hasWay_14 : decode cX1_hasWay 14 = .ok (.goto 4, 3) := by decide +kernel
theorem dX1_hasWay_17 : decode cX1_hasWay 17 = .ok (.iconst 0, 1) := by decide +kernel
theorem dX1_hasWay_18 : decode cX1_hasWay 18 = .ok (.ireturn, 1) := by decide +kernel
theorem dX1_weightOf_0 : decode cX1_weightOf 0 = .ok (.iconst 0, 1) := by decide +kernel
theorem dX1_weightOf_1 : decode cX1_weightOf 1 = .ok (.istore_n 2, 1) := by decide +kernel
theorem dX1_weightOf_2 : decode cX1_weightOf 2 = .ok (.iload_n 2, 1) := by decide +kernel
theorem dX1_weightOf_3 : decode cX1_weightOf 3 = .ok (.aload_n 0, 1) := by decide +kernel
theorem dX1_weightOf_4 : decode cX1_weightOf 4 = .ok (.getfield 24, 3) := by decide +kernel
theorem dX1_weightOf_7 : decode cX1_weightOf 7 = .ok (.if_icmp .ge 30, 3) := by decide +kernel
theorem dX1_weightOf_10 : decode cX1_weightOf 10 = .ok (.iload_n 1, 1) := by decide +kernel
theorem dX1_weightOf_11 : decode cX1_weightOf 11 = .ok (.aload_n 0, 1) := by decide +kernel
theorem dX1_weightOf_12 : decode cX1_weightOf 12 = .ok (.getfield 61, 3) := by decide +kernel
theorem dX1_weightOf_15 : decode cX1_weightOf 15 = .ok (.iload_n 2, 1) := by decide +kernel
theorem dX1_weightOf_16 : decode cX1_weightOf 16 = .ok (.aaload, 1) := by decide +kernel
theorem dX1_weightOf_17 : decode cX1_weightOf 17 = .ok (.iconst 0, 1) := by decide +kernel
theorem dX1_weightOf_18 : decode cX1_weightOf 18 = .ok (.iaload, 1) := by decide +kernel
theorem dX1_weightOf_19 : decode cX1_weightOf 19 = .ok (.if_icmp .gt 12, 3) := by decide +kernel
theorem dX1_weightOf_22 : decode cX1_weightOf 22 = .ok (.aload_n 0, 1) := by decide +kernel
theorem dX1_weightOf_23 : decode cX1_weightOf 23 = .ok (.getfield 61, 3) := by decide +kernel
theorem dX1_weightOf_26 : decode cX1_weightOf 26 = .ok (.iload_n 2, 1) := by decide +kernel
theorem dX1_weightOf_27 : decode cX1_weightOf 27 = .ok (.aaload, 1) := by decide +kernel
theorem dX1_weightOf_28 : decode cX1_weightOf 28 = .ok (.iconst 1, 1) := by decide +kernel
theorem dX1_weightOf_29 : decode cX1_weightOf 29 = .ok (.iaload, 1) := by decide +kernel
theorem dX1_weightOf_30 : decode cX1_weightOf 30 = .ok (.ireturn, 1) := by decide +kernel
theorem dX1_weightOf_31 : decode cX1_weightOf 31 = .ok (.iinc 2 1, 3) := by decide +kernel
theorem dX1_weightOf_34 : decode cX1_weightOf 34 = .ok (.goto (-32), 3) := by decide +kernel
theorem dX1_weightOf_37 : decode cX1_weightOf 37 = .ok (.bipush 100, 2) := by decide +kernel
theorem dX1_weightOf_39 : decode cX1_weightOf 39 = .ok (.ireturn, 1) := by decide +kernel
theorem dX1_isPair_0 : decode cX1_isPair 0 = .ok (.iload_n 0, 1) := by decide +kernel
theorem dX1_isPair_1 : decode cX1_isPair 1 = .ok (.iload_n 2, 1) := by decide +kernel
theorem dX1_isPair_2 : decode cX1_isPair 2 = .ok (.if_icmp .ne 8, 3) := by decide +kernel
theorem dX1_isPair_5 : decode cX1_isPair 5 = .ok (.iload_n 1, 1) := by decide +kernel
theorem dX1_isPair_6 : decode cX1_isPair 6 = .ok (.iload_n 3, 1) := by decide +kernel
theorem dX1_isPair_7 : decode cX1_isPair 7 = .ok (.if_icmp .eq 13, 3) := by decide +kernel
theorem dX1_isPair_10 : decode cX1_isPair 10 = .ok (.iload_n 0, 1) := by decide +kernel
theorem dX1_isPair_11 : decode cX1_isPair 11 = .ok (.iload_n 3, 1) := by decide +kernel
theorem dX1_isPair_12 : decode cX1_isPair 12 = .ok (.if_icmp .ne 12, 3) := by decide +kernel
theorem dX1_isPair_15 : decode cX1_isPair 15 = .ok (.iload_n 1, 1) := by decide +kernel
theorem dX1_isPair_16 : decode cX1_isPair 16 = .ok (.iload_n 2, 1) := by decide +kernel
theorem dX1_isPair_17 : decode cX1_isPair 17 = .ok (.if_icmp .ne 7, 3) := by decide +kernel
theorem dX1_isPair_20 : decode cX1_isPair 20 = .ok (.iconst 1, 1) := by decide +kernel
theorem dX1_isPair_21 : decode cX1_isPair 21 = .ok (.goto 4, 3) := by decide +kernel
theorem dX1_isPair_24 : decode cX1_isPair 24 = .ok (.iconst 0, 1) := by decide +kernel
theorem dX1_isPair_25 : decode cX1_isPair 25 = .ok (.ireturn, 1) := by decide +kernel
theorem dX1_baseOf_0 : decode cX1_baseOf 0 = .ok (.iconst 0, 1) := by decide +kernel
theorem dX1_baseOf_1 : decode cX1_baseOf 1 = .ok (.istore 4, 2) := by decide +kernel
theorem dX1_baseOf_3 : decode cX1_baseOf 3 = .ok (.iload 4, 2) := by decide +kernel
theorem dX1_baseOf_5 : decode cX1_baseOf 5 = .ok (.aload_n 0, 1) := by decide +kernel
theorem dX1_baseOf_6 : decode cX1_baseOf 6 = .ok (.getfield 30, 3) := by decide +kernel
theorem dX1_baseOf_9 : decode cX1_baseOf 9 = .ok (.if_icmp .ge 47, 3) := by decide +kernel
theorem dX1_baseOf_12 : decode cX1_baseOf 12 = .ok (.aload_n 0, 1) := by decide +kernel
theorem dX1_baseOf_13 : decode cX1_baseOf 13 = .ok (.getfield 67, 3) := by decide +kernel
theorem dX1_baseOf_16 : decode cX1_baseOf 16 = .ok (.iload 4, 2) := by decide +kernel
theorem dX1_baseOf_18 : decode cX1_baseOf 18 = .ok (.aaload, 1) := by decide +kernel
theorem dX1_baseOf_19 : decode cX1_baseOf 19 = .ok (.astore 5, 2) := by decide +kernel
theorem dX1_baseOf_21 : decode cX1_baseOf 21 = .ok (.aload 5, 2) := by decide +kernel
theorem dX1_baseOf_23 : decode cX1_baseOf 23 = .ok (.iconst 0, 1) := by decide +kernel
theorem dX1_baseOf_24 : decode cX1_baseOf 24 = .ok (.iaload, 1) := by decide +kernel
theorem dX1_baseOf_25 : decode cX1_baseOf 25 = .ok (.iload_n 1, 1) := by decide +kernel
theorem dX1_baseOf_26 : decode cX1_baseOf 26 = .ok (.if_icmp .ne 24, 3) := by decide +kernel
theorem dX1_baseOf_29 : decode cX1_baseOf 29 = .ok (.aload 5, 2) := by decide +kernel
theorem dX1_baseOf_31 : decode cX1_baseOf 31 = .ok (.iconst 1, 1) := by decide +kernel
theorem dX1_baseOf_32 : decode cX1_baseOf 32 = .ok (.iaload, 1) := by decide +kernel
theorem dX1_baseOf_33 : decode cX1_baseOf 33 = .ok (.aload 5, 2) := by decide +kernel
theorem dX1_baseOf_35 : decode cX1_baseOf 35 = .ok (.iconst 2, 1) := by decide +kernel
theorem dX1_baseOf_36 : decode cX1_baseOf 36 = .ok (.iaload, 1) := by decide +kernel
theorem dX1_baseOf_37 : decode cX1_baseOf 37 = .ok (.iload_n 2, 1) := by decide +kernel
theorem dX1_baseOf_38 : decode cX1_baseOf 38 = .ok (.iload_n 3, 1) := by decide +kernel
theorem dX1_baseOf_39 : decode cX1_baseOf 39 = .ok (.invokestatic 94, 3) := by decide +kernel
theorem dX1_baseOf_42 : decode cX1_baseOf 42 = .ok (.ifCond .eq 8, 3) := by decide +kernel
theorem dX1_baseOf_45 : decode cX1_baseOf 45 = .ok (.aload 5, 2) := by decide +kernel
theorem dX1_baseOf_47 : decode cX1_baseOf 47 = .ok (.iconst 3, 1) := by decide +kernel
theorem dX1_baseOf_48 : decode cX1_baseOf 48 = .ok (.iaload, 1) := by decide +kernel
theorem dX1_baseOf_49 : decode cX1_baseOf 49 = .ok (.ireturn, 1) := by decide +kernel
theorem dX1_baseOf_50 : decode cX1_baseOf 50 = .ok (.iinc 4 1, 3) := by decide +kernel
theorem dX1_baseOf_53 : decode cX1_baseOf 53 = .ok (.goto (-50), 3) := by decide +kernel
theorem dX1_baseOf_56 : decode cX1_baseOf 56 = .ok (.iconst (-1), 1) := by decide +kernel
theorem dX1_baseOf_57 : decode cX1_baseOf 57 = .ok (.ireturn, 1) := by decide +kernel
theorem dX1_fareOf_0 : decode cX1_fareOf 0 = .ok (.aload_n 0, 1) := by decide +kernel
theorem dX1_fareOf_1 : decode cX1_fareOf 1 = .ok (.getfield 70, 3) := by decide +kernel
theorem dX1_fareOf_4 : decode cX1_fareOf 4 = .ok (.iload_n 1, 1) := by decide +kernel
theorem dX1_fareOf_5 : decode cX1_fareOf 5 = .ok (.aaload, 1) := by decide +kernel
theorem dX1_fareOf_6 : decode cX1_fareOf 6 = .ok (.iconst 0, 1) := by decide +kernel
theorem dX1_fareOf_7 : decode cX1_fareOf 7 = .ok (.iaload, 1) := by decide +kernel
theorem dX1_fareOf_8 : decode cX1_fareOf 8 = .ok (.ireturn, 1) := by decide +kernel
theorem dX1_howOf_0 : decode cX1_howOf 0 = .ok (.aload_n 0, 1) := by decide +kernel
theorem dX1_howOf_1 : decode cX1_howOf 1 = .ok (.getfield 70, 3) := by decide +kernel
theorem dX1_howOf_4 : decode cX1_howOf 4 = .ok (.iload_n 1, 1) := by decide +kernel
theorem dX1_howOf_5 : decode cX1_howOf 5 = .ok (.aaload, 1) := by decide +kernel
theorem dX1_howOf_6 : decode cX1_howOf 6 = .ok (.iconst 1, 1) := by decide +kernel
theorem dX1_howOf_7 : decode cX1_howOf 7 = .ok (.iaload, 1) := by decide +kernel
theorem dX1_howOf_8 : decode cX1_howOf 8 = .ok (.ireturn, 1) := by decide +kernel
theorem dX1_couponsOf_0 : decode cX1_couponsOf 0 = .ok (.aload_n 0, 1) := by decide +kernel
theorem dX1_couponsOf_1 : decode cX1_couponsOf 1 = .ok (.getfield 70, 3) := by decide +kernel
theorem dX1_couponsOf_4 : decode cX1_couponsOf 4 = .ok (.iload_n 1, 1) := by decide +kernel
theorem dX1_couponsOf_5 : decode cX1_couponsOf 5 = .ok (.aaload, 1) := by decide +kernel
theorem dX1_couponsOf_6 : decode cX1_couponsOf 6 = .ok (.iconst 2, 1) := by decide +kernel
theorem dX1_couponsOf_7 : decode cX1_couponsOf 7 = .ok (.iaload, 1) := by decide +kernel
theorem dX1_couponsOf_8 : decode cX1_couponsOf 8 = .ok (.ireturn, 1) := by decide +kernel
theorem dX1_carrierTold_0 : decode cX1_carrierTold 0 = .ok (.aload_n 0, 1) := by decide +kernel
theorem dX1_carrierTold_1 : decode cX1_carrierTold 1 = .ok (.getfield 70, 3) := by decide +kernel
theorem dX1_carrierTold_4 : decode cX1_carrierTold 4 = .ok (.iload_n 1, 1) := by decide +kernel
theorem dX1_carrierTold_5 : decode cX1_carrierTold 5 = .ok (.aaload, 1) := by decide +kernel
theorem dX1_carrierTold_6 : decode cX1_carrierTold 6 = .ok (.iconst 3, 1) := by decide +kernel
theorem dX1_carrierTold_7 : decode cX1_carrierTold 7 = .ok (.iload_n 2, 1) := by decide +kernel
theorem dX1_carrierTold_8 : decode cX1_carrierTold 8 = .ok (.iadd, 1) := by decide +kernel
theorem dX1_carrierTold_9 : decode cX1_carrierTold 9 = .ok (.iaload, 1) := by decide +kernel
theorem dX1_carrierTold_10 : decode cX1_carrierTold 10 = .ok (.ireturn, 1) := by decide +kernel
theorem dX1_milesOf_0 : decode cX1_milesOf 0 = .ok (.aload_n 0, 1) := by decide +kernel
theorem dX1_milesOf_1 : decode cX1_milesOf 1 = .ok (.getfield 58, 3) := by decide +kernel
theorem dX1_milesOf_4 : decode cX1_milesOf 4 = .ok (.aload_n 0, 1) := by decide +kernel
theorem dX1_milesOf_5 : decode cX1_milesOf 5 = .ok (.getfield 73, 3) := by decide +kernel
theorem dX1_milesOf_8 : decode cX1_milesOf 8 = .ok (.iload_n 1, 1) := by decide +kernel
theorem dX1_milesOf_9 : decode cX1_milesOf 9 = .ok (.aaload, 1) := by decide +kernel
theorem dX1_milesOf_10 : decode cX1_milesOf 10 = .ok (.iload_n 2, 1) := by decide +kernel
theorem dX1_milesOf_11 : decode cX1_milesOf 11 = .ok (.iaload, 1) := by decide +kernel
theorem dX1_milesOf_12 : decode cX1_milesOf 12 = .ok (.aaload, 1) := by decide +kernel
theorem dX1_milesOf_13 : decode cX1_milesOf 13 = .ok (.aload_n 0, 1) := by decide +kernel
theorem dX1_milesOf_14 : decode cX1_milesOf 14 = .ok (.getfield 73, 3) := by decide +kernel
theorem dX1_milesOf_17 : decode cX1_milesOf 17 = .ok (.iload_n 1, 1) := by decide +kernel
theorem dX1_milesOf_18 : decode cX1_milesOf 18 = .ok (.aaload, 1) := by decide +kernel
theorem dX1_milesOf_19 : decode cX1_milesOf 19 = .ok (.iload_n 2, 1) := by decide +kernel
theorem dX1_milesOf_20 : decode cX1_milesOf 20 = .ok (.iconst 1, 1) := by decide +kernel
theorem dX1_milesOf_21 : decode cX1_milesOf 21 = .ok (.iadd, 1) := by decide +kernel
theorem dX1_milesOf_22 : decode cX1_milesOf 22 = .ok (.iaload, 1) := by decide +kernel
theorem dX1_milesOf_23 : decode cX1_milesOf 23 = .ok (.iaload, 1) := by decide +kernel
theorem dX1_milesOf_24 : decode cX1_milesOf 24 = .ok (.ireturn, 1) := by decide +kernel
theorem dX2_init_0 : decode cX2_init 0 = .ok (.aload_n 0, 1) := by decide +kernel
theorem dX2_init_1 : decode cX2_init 1 = .ok (.invokespecial 3, 3) := by decide +kernel
theorem dX2_init_4 : decode cX2_init 4 = .ok (.aload_n 0, 1) := by decide +kernel
theorem dX2_init_5 : decode cX2_init 5 = .ok (.bipush 8, 2) := by decide +kernel
theorem dX2_init_7 : decode cX2_init 7 = .ok (.newarray .int, 2) := by decide +kernel
theorem dX2_init_9 : decode cX2_init 9 = .ok (.putfield 9, 3) := by decide +kernel
theorem dX2_init_12 : decode cX2_init 12 = .ok (.aload_n 0, 1) := by decide +kernel
theorem dX2_init_13 : decode cX2_init 13 = .ok (.bipush 8, 2) := by decide +kernel
theorem dX2_init_15 : decode cX2_init 15 = .ok (.newarray .int, 2) := by decide +kernel
theorem dX2_init_17 : decode cX2_init 17 = .ok (.putfield 15, 3) := by decide +kernel
theorem dX2_init_20 : decode cX2_init 20 = .ok (.aload_n 0, 1) := by decide +kernel
theorem dX2_init_21 : decode cX2_init 21 = .ok (.bipush 8, 2) := by decide +kernel
theorem dX2_init_23 : decode cX2_init 23 = .ok (.newarray .boolean, 2) := by decide +kernel
theorem dX2_init_25 : decode cX2_init 25 = .ok (.putfield 18, 3) := by decide +kernel
theorem dX2_init_28 : decode cX2_init 28 = .ok (.aload_n 0, 1) := by decide +kernel
theorem dX2_init_29 : decode cX2_init 29 = .ok (.bipush 8, 2) := by decide +kernel
theorem dX2_init_31 : decode cX2_init 31 = .ok (.bipush 8, 2) := by decide +kernel
theorem dX2_init_33 : decode cX2_init 33 = .ok (.multianewarray 22 2, 4) := by decide +kernel
theorem dX2_init_37 : decode cX2_init 37 = .ok (.putfield 24, 3) := by decide +kernel
theorem dX2_init_40 : decode cX2_init 40 = .ok (.aload_n 0, 1) := by decide +kernel
theorem dX2_init_41 : decode cX2_init 41 = .ok (.bipush 8, 2) := by decide +kernel
theorem dX2_init_43 : decode cX2_init 43 = .ok (.bipush 8, 2) := by decide +kernel
theorem dX2_init_45 : decode cX2_init 45 = .ok (.multianewarray 22 2, 4) := by decide +kernel
theorem dX2_init_49 : decode cX2_init 49 = .ok (.putfield 27, 3) := by decide +kernel
theorem dX2_init_52 : decode cX2_init 52 = .ok (.aload_n 0, 1) := by decide +kernel
theorem dX2_init_53 : decode cX2_init 53 = .ok (.bipush 6, 2) := by decide +kernel
theorem dX2_init_55 : decode cX2_init 55 = .ok (.bipush 6, 2) := by decide +kernel
theorem dX2_init_57 : decode cX2_init 57 = .ok (.multianewarray 22 2, 4) := by decide +kernel
theorem dX2_init_61 : decode cX2_init 61 = .ok (.putfield 30, 3) := by decide +kernel
theorem dX2_init_64 : decode cX2_init 64 = .ok (.aload_n 0, 1) := by decide +kernel
theorem dX2_init_65 : decode cX2_init 65 = .ok (.bipush 6, 2) := by decide +kernel
theorem dX2_init_67 : decode cX2_init 67 = .ok (.newarray .int, 2) := by decide +kernel
theorem dX2_init_69 : decode cX2_init 69 = .ok (.putfield 33, 3) := by decide +kernel
theorem dX2_init_72 : decode cX2_init 72 = .ok (.aload_n 0, 1) := by decide +kernel
theorem dX2_init_73 : decode cX2_init 73 = .ok (.bipush 14, 2) := by decide +kernel
theorem dX2_init_75 : decode cX2_init 75 = .ok (.iconst 4, 1) := by decide +kernel
theorem dX2_init_76 : decode cX2_init 76 = .ok (.multianewarray 22 2, 4) := by decide +kernel
theorem dX2_init_80 : decode cX2_init 80 = .ok (.putfield 36, 3) := by decide +kernel
theorem dX2_init_83 : decode cX2_init 83 = .ok (.aload_n 0, 1) := by decide +kernel
theorem dX2_init_84 : decode cX2_init 84 = .ok (.bipush 14, 2) := by decide +kernel
theorem dX2_init_86 : decode cX2_init 86 = .ok (.bipush 36, 2) := by decide +kernel
theorem dX2_init_88 : decode cX2_init 88 = .ok (.multianewarray 22 2, 4) := by decide +kernel
theorem dX2_init_92 : decode cX2_init 92 = .ok (.putfield 39, 3) := by decide +kernel
theorem dX2_init_95 : decode cX2_init 95 = .ok (.aload_n 0, 1) := by decide +kernel
theorem dX2_init_96 : decode cX2_init 96 = .ok (.iconst 0, 1) := by decide +kernel
theorem dX2_init_97 : decode cX2_init 97 = .ok (.putfield 42, 3) := by decide +kernel
theorem dX2_init_100 : decode cX2_init 100 = .ok (.aload_n 0, 1) := by decide +kernel
theorem dX2_init_101 : decode cX2_init 101 = .ok (.iconst 0, 1) := by decide +kernel
theorem dX2_init_102 : decode cX2_init 102 = .ok (.putfield 46, 3) := by decide +kernel
theorem dX2_init_105 : decode cX2_init 105 = .ok (.return_, 1) := by decide +kernel
theorem dX2_open_0 : decode cX2_open 0 = .ok (.aload_n 0, 1) := by decide +kernel
theorem dX2_open_1 : decode cX2_open 1 = .ok (.iconst 0, 1) := by decide +kernel
theorem dX2_open_2 : decode cX2_open 2 = .ok (.putfield 46, 3) := by decide +kernel
theorem dX2_open_5 : decode cX2_open 5 = .ok (.iconst 0, 1) := by decide +kernel
theorem dX2_open_6 : decode cX2_open 6 = .ok (.istore_n 2, 1) := by decide +kernel
theorem dX2_open_7 : decode cX2_open 7 = .ok (.iload_n 2, 1) := by decide +kernel
theorem dX2_open_8 : decode cX2_open 8 = .ok (.bipush 8, 2) := by decide +kernel
theorem dX2_open_10 : decode cX2_open 10 = .ok (.if_icmp .ge 63, 3) := by decide +kernel
theorem dX2_open_13 : decode cX2_open 13 = .ok (.aload_n 0, 1) := by decide +kernel
theorem dX2_open_14 : decode cX2_open 14 = .ok (.getfield 9, 3) := by decide +kernel
theorem dX2_open_17 : decode cX2_open 17 = .ok (.iload_n 2, 1) := by decide +kernel
theorem dX2_open_18 : decode cX2_open 18 = .ok (.aload_n 1, 1) := by decide +kernel
theorem dX2_open_19 : decode cX2_open 19 = .ok (.iload_n 2, 1) := by decide +kernel
theorem dX2_open_20 : decode cX2_open 20 = .ok (.iconst 0, 1) := by decide +kernel
theorem dX2_open_21 : decode cX2_open 21 = .ok (.invokevirtual 49, 3) := by decide +kernel
theorem dX2_open_24 : decode cX2_open 24 = .ok (.iastore, 1) := by decide +kernel
theorem dX2_open_25 : decode cX2_open 25 = .ok (.aload_n 0, 1) := by decide +kernel
theorem dX2_open_26 : decode cX2_open 26 = .ok (.getfield 15, 3) := by decide +kernel
theorem dX2_open_29 : decode cX2_open 29 = .ok (.iload_n 2, 1) := by decide +kernel
theorem dX2_open_30 : decode cX2_open 30 = .ok (.iconst 0, 1) := by decide +kernel
theorem dX2_open_31 : decode cX2_open 31 = .ok (.iastore, 1) := by decide +kernel
theorem dX2_open_32 : decode cX2_open 32 = .ok (.aload_n 0, 1) := by decide +kernel
theorem dX2_open_33 : decode cX2_open 33 = .ok (.getfield 18, 3) := by decide +kernel
theorem dX2_open_36 : decode cX2_open 36 = .ok (.iload_n 2, 1) := by decide +kernel
theorem dX2_open_37 : decode cX2_open 37 = .ok (.iconst 0, 1) := by decide +kernel
theorem dX2_open_38 : decode cX2_open 38 = .ok (.bastore, 1) := by decide +kernel
theorem dX2_open_39 : decode cX2_open 39 = .ok (.iconst 0, 1) := by decide +kernel
theorem dX2_open_40 : decode cX2_open 40 = .ok (.istore_n 3, 1) := by decide +kernel
theorem dX2_open_41 : decode cX2_open 41 = .ok (.iload_n 3, 1) := by decide +kernel
theorem dX2_open_42 : decode cX2_open 42 = .ok (.bipush 8, 2) := by decide +kernel
theorem dX2_open_44 : decode cX2_open 44 = .ok (.if_icmp .ge 23, 3) := by decide +kernel
theorem dX2_open_47 : decode cX2_open 47 = .ok (.aload_n 0, 1) := by decide +kernel
theorem dX2_open_48 : decode cX2_open 48 = .ok (.getfield 24, 3) := by decide +kernel
theorem dX2_open_51 : decode cX2_open 51 = .ok (.iload_n 2, 1) := by decide +kernel
theorem dX2_open_52 : decode cX2_open 52 = .ok (.aaload, 1) := by decide +kernel
theorem dX2_open_53 : decode cX2_open 53 = .ok (.iload_n 3, 1) := by decide +kernel
theorem dX2_open_54 : decode cX2_open 54 = .ok (.aload_n 1, 1) := by decide +kernel
theorem dX2_open_55 : decode cX2_open 55 = .ok (.iload_n 2, 1) := by decide +kernel
theorem dX2_open_56 : decode cX2_open 56 = .ok (.iload_n 3, 1) := by decide +kernel
theorem dX2_open_57 : decode cX2_open 57 = .ok (.invokevirtual 49, 3) := by decide +kernel
theorem dX2_open_60 : decode cX2_open 60 = .ok (.iastore, 1) := by decide +kernel
theorem dX2_open_61 : decode cX2_open 61 = .ok (.iinc 3 1, 3) := by decide +kernel
theorem dX2_open_64 : decode cX2_open 64 = .ok (.goto (-23), 3) := by decide +kernel
theorem dX2_open_67 : decode cX2_open 67 = .ok (.iinc 2 1, 3) := by decide +kernel
theorem dX2_open_70 : decode cX2_open 70 = .ok (.goto (-63), 3) := by decide +kernel
theorem dX2_open_73 : decode cX2_open 73 = .ok (.iconst 0, 1) := by decide +kernel
theorem dX2_open_74 : decode cX2_open 74 = .ok (.istore_n 2, 1) := by decide +kernel
theorem dX2_open_75 : decode cX2_open 75 = .ok (.iload_n 2, 1) := by decide +kernel
theorem dX2_open_76 : decode cX2_open 76 = .ok (.bipush 6, 2) := by decide +kernel
theorem dX2_open_78 : decode cX2_open 78 = .ok (.if_icmp .ge 39, 3) := by decide +kernel
theorem dX2_open_81 : decode cX2_open 81 = .ok (.aload_n 0, 1) := by decide +kernel
theorem dX2_open_82 : decode cX2_open 82 = .ok (.getfield 33, 3) := by decide +kernel
theorem dX2_open_85 : decode cX2_open 85 = .ok (.iload_n 2, 1) := by decide +kernel
theorem dX2_open_86 : decode cX2_open 86 = .ok (.iconst 0, 1) := by decide +kernel
theorem dX2_open_87 : decode cX2_open 87 = .ok (.iastore, 1) := by decide +kernel
theorem dX2_open_88 : decode cX2_open 88 = .ok (.iconst 0, 1) := by decide +kernel
theorem dX2_open_89 : decode cX2_open 89 = .ok (.istore_n 3, 1) := by decide +kernel
theorem dX2_open_90 : decode cX2_open 90 = .ok (.iload_n 3, 1) := by decide +kernel
theorem dX2_open_91 : decode cX2_open 91 = .ok (.bipush 6, 2) := by decide +kernel
theorem dX2_open_93 : decode cX2_open 93 = .ok (.if_icmp .ge 18, 3) := by decide +kernel
theorem dX2_open_96 : decode cX2_open 96 = .ok (.aload_n 0, 1) := by decide +kernel
theorem dX2_open_97 : decode cX2_open 97 = .ok (.getfield 30, 3) := by decide +kernel
theorem dX2_open_100 : decode cX2_open 100 = .ok (.iload_n 2, 1) := by decide +kernel
theorem dX2_open_101 : decode cX2_open 101 = .ok (.aaload, 1) := by decide +kernel
theorem dX2_open_102 : decode cX2_open 102 = .ok (.iload_n 3, 1) := by decide +kernel
theorem dX2_open_103 : decode cX2_open 103 = .ok (.iconst 0, 1) := by decide +kernel
theorem dX2_open_104 : decode cX2_open 104 = .ok (.iastore, 1) := by decide +kernel
theorem dX2_open_105 : decode cX2_open 105 = .ok (.iinc 3 1, 3) := by decide +kernel
theorem dX2_open_108 : decode cX2_open 108 = .ok (.goto (-18), 3) := by decide +kernel
theorem dX2_open_111 : decode cX2_open 111 = .ok (.iinc 2 1, 3) := by decide +kernel
theorem dX2_open_114 : decode cX2_open 114 = .ok (.goto (-39), 3) := by decide +kernel
theorem dX2_open_117 : decode cX2_open 117 = .ok (.return_, 1) := by decide +kernel
theorem dX2_addStep_0 : decode cX2_addStep 0 = .ok (.aload_n 0, 1) := by decide +kernel
theorem dX2_addStep_1 : decode cX2_addStep 1 = .ok (.getfield 42, 3) := by decide +kernel
theorem dX2_addStep_4 : decode cX2_addStep 4 = .ok (.aload_n 0, 1) := by decide +kernel
theorem dX2_addStep_5 : decode cX2_addStep 5 = .ok (.getfield 46, 3) := by decide +kernel
theorem dX2_addStep_8 : decode cX2_addStep 8 = .ok (.iadd, 1) := by decide +kernel
theorem dX2_addStep_9 : decode cX2_addStep 9 = .ok (.bipush 14, 2) := by decide +kernel
theorem dX2_addStep_11 : decode cX2_addStep 11 = .ok (.irem, 1) := by decide +kernel
theorem dX2_addStep_12 : decode cX2_addStep 12 = .ok (.istore 5, 2) := by decide +kernel
theorem dX2_addStep_14 : decode cX2_addStep 14 = .ok (.aload_n 0, 1) := by decide +kernel
theorem dX2_addStep_15 : decode cX2_addStep 15 = .ok (.getfield 46, 3) := by decide +kernel
theorem dX2_addStep_18 : decode cX2_addStep 18 = .ok (.bipush 14, 2) := by decide +kernel
theorem dX2_addStep_20 : decode cX2_addStep 20 = .ok (.if_icmp .ge 16, 3) := by decide +kernel
theorem dX2_addStep_23 : decode cX2_addStep 23 = .ok (.aload_n 0, 1) := by decide +kernel
theorem dX2_addStep_24 : decode cX2_addStep 24 = .ok (.dup, 1) := by decide +kernel
theorem dX2_addStep_25 : decode cX2_addStep 25 = .ok (.getfield 46, 3) := by decide +kernel
theorem dX2_addStep_28 : decode cX2_addStep 28 = .ok (.iconst 1, 1) := by decide +kernel
theorem dX2_addStep_29 : decode cX2_addStep 29 = .ok (.iadd, 1) := by decide +kernel
theorem dX2_addStep_30 : decode cX2_addStep 30 = .ok (.putfield 46, 3) := by decide +kernel
theorem dX2_addStep_33 : decode cX2_addStep 33 = .ok (.goto 16, 3) := by decide +kernel
theorem dX2_addStep_36 : decode cX2_addStep 36 = .ok (.aload_n 0, 1) := by decide +kernel
theorem dX2_addStep_37 : decode cX2_addStep 37 = .ok (.aload_n 0, 1) := by decide +kernel
theorem dX2_addStep_38 : decode cX2_addStep 38 = .ok (.getfield 42, 3) := by decide +kernel
theorem dX2_addStep_41 : decode cX2_addStep 41 = .ok (.iconst 1, 1) := by decide +kernel
theorem dX2_addStep_42 : decode cX2_addStep 42 = .ok (.iadd, 1) := by decide +kernel
theorem dX2_addStep_43 : decode cX2_addStep 43 = .ok (.bipush 14, 2) := by decide +kernel
theorem dX2_addStep_45 : decode cX2_addStep 45 = .ok (.irem, 1) := by decide +kernel
theorem dX2_addStep_46 : decode cX2_addStep 46 = .ok (.putfield 42, 3) := by decide +kernel
theorem dX2_addStep_49 : decode cX2_addStep 49 = .ok (.aload_n 0, 1) := by decide +kernel
theorem dX2_addStep_50 : decode cX2_addStep 50 = .ok (.getfield 36, 3) := by decide +kernel
theorem dX2_addStep_53 : decode cX2_addStep 53 = .ok (.iload 5, 2) := by decide +kernel
theorem dX2_addStep_55 : decode cX2_addStep 55 = .ok (.aaload, 1) := by decide +kernel
theorem dX2_addStep_56 : decode cX2_addStep 56 = .ok (.iconst 0, 1) := by decide +kernel
theorem dX2_addStep_57 : decode cX2_addStep 57 = .ok (.iload_n 1, 1) := by decide +kernel
theorem dX2_addStep_58 : decode cX2_addStep 58 = .ok (.iastore, 1) := by decide +kernel
theorem dX2_addStep_59 : decode cX2_addStep 59 = .ok (.aload_n 0, 1) := by decide +kernel
theorem dX2_addStep_60 : decode cX2_addStep 60 = .ok (.getfield 36, 3) := by decide +kernel
theorem dX2_addStep_63 : decode cX2_addStep 63 = .ok (.iload 5, 2) := by decide +kernel
theorem dX2_addStep_65 : decode cX2_addStep 65 = .ok (.aaload, 1) := by decide +kernel
theorem dX2_addStep_66 : decode cX2_addStep 66 = .ok (.iconst 1, 1) := by decide +kernel
theorem dX2_addStep_67 : decode cX2_addStep 67 = .ok (.iload_n 2, 1) := by decide +kernel
theorem dX2_addStep_68 : decode cX2_addStep 68 = .ok (.iastore, 1) := by decide +kernel
theorem dX2_addStep_69 : decode cX2_addStep 69 = .ok (.aload_n 0, 1) := by decide +kernel
theorem dX2_addStep_70 : decode cX2_addStep 70 = .ok (.getfield 36, 3) := by decide +kernel
theorem dX2_addStep_73 : decode cX2_addStep 73 = .ok (.iload 5, 2) := by decide +kernel
theorem dX2_addStep_75 : decode cX2_addStep 75 = .ok (.aaload, 1) := by decide +kernel
theorem dX2_addStep_76 : decode cX2_addStep 76 = .ok (.iconst 2, 1) := by decide +kernel
theorem dX2_addStep_77 : decode cX2_addStep 77 = .ok (.iload_n 3, 1) := by decide +kernel
theorem dX2_addStep_78 : decode cX2_addStep 78 = .ok (.iastore, 1) := by decide +kernel
theorem dX2_addStep_79 : decode cX2_addStep 79 = .ok (.aload_n 0, 1) := by decide +kernel
theorem dX2_addStep_80 : decode cX2_addStep 80 = .ok (.getfield 36, 3) := by decide +kernel
theorem dX2_addStep_83 : decode cX2_addStep 83 = .ok (.iload 5, 2) := by decide +kernel
theorem dX2_addStep_85 : decode cX2_addStep 85 = .ok (.aaload, 1) := by decide +kernel
theorem dX2_addStep_86 : decode cX2_addStep 86 = .ok (.iconst 3, 1) := by decide +kernel
theorem dX2_addStep_87 : decode cX2_addStep 87 = .ok (.iload 4, 2) := by decide +kernel
theorem dX2_addStep_89 : decode cX2_addStep 89 = .ok (.iastore, 1) := by decide +kernel
theorem dX2_addStep_90 : decode cX2_addStep 90 = .ok (.iload 5, 2) := by decide +kernel
theorem dX2_addStep_92 : decode cX2_addStep 92 = .ok (.ireturn, 1) := by decide +kernel
theorem dX2_addToBill_0 : decode cX2_addToBill 0 = .ok (.aload_n 0, 1) := by decide +kernel
theorem dX2_addToBill_1 : decode cX2_addToBill 1 = .ok (.getfield 24, 3) := by decide +kernel
theorem dX2_addToBill_4 : decode cX2_addToBill 4 = .ok (.iload_n 1, 1) := by decide +kernel
theorem dX2_addToBill_5 : decode cX2_addToBill 5 = .ok (.aaload, 1) := by decide +kernel
theorem dX2_addToBill_6 : decode cX2_addToBill 6 = .ok (.iload_n 2, 1) := by decide +kernel
theorem dX2_addToBill_7 : decode cX2_addToBill 7 = .ok (.iaload, 1) := by decide +kernel
theorem dX2_addToBill_8 : decode cX2_addToBill 8 = .ok (.aload_n 0, 1) := by decide +kernel
theorem dX2_addToBill_9 : decode cX2_addToBill 9 = .ok (.getfield 9, 3) := by decide +kernel
theorem dX2_addToBill_12 : decode cX2_addToBill 12 = .ok (.iload_n 1, 1) := by decide +kernel
theorem dX2_addToBill_13 : decode cX2_addToBill 13 = .ok (.iaload, 1) := by decide +kernel
theorem dX2_addToBill_14 : decode cX2_addToBill 14 = .ok (.if_icmp .eq 27, 3) := by decide +kernel
theorem dX2_addToBill_17 : decode cX2_addToBill 17 = .ok (.aload_n 0, 1) := by decide +kernel
theorem dX2_addToBill_18 : decode cX2_addToBill 18 = .ok (.getfield 30, 3) := by decide +kernel
theorem dX2_addToBill_21 : decode cX2_addToBill 21 = .ok (.aload_n 0, 1) := by decide +kernel
theorem dX2_addToBill_22 : decode cX2_addToBill 22 = .ok (.getfield 24, 3) := by decide +kernel
theorem dX2_addToBill_25 : decode cX2_addToBill 25 = .ok (.iload_n 1, 1) := by decide +kernel
theorem dX2_addToBill_26 : decode cX2_addToBill 26 = .ok (.aaload, 1) := by decide +kernel
theorem dX2_addToBill_27 : decode cX2_addToBill 27 = .ok (.iload_n 2, 1) := by decide +kernel
theorem dX2_addToBill_28 : decode cX2_addToBill 28 = .ok (.iaload, 1) := by decide +kernel
theorem dX2_addToBill_29 : decode cX2_addToBill 29 = .ok (.aaload, 1) := by decide +kernel
theorem dX2_addToBill_30 : decode cX2_addToBill 30 = .ok (.aload_n 0, 1) := by decide +kernel
theorem dX2_addToBill_31 : decode cX2_addToBill 31 = .ok (.getfield 9, 3) := by decide +kernel
theorem dX2_addToBill_34 : decode cX2_addToBill 34 = .ok (.iload_n 1, 1) := by decide +kernel
theorem dX2_addToBill_35 : decode cX2_addToBill 35 = .ok (.iaload, 1) := by decide +kernel
theorem dX2_addToBill_36 : decode cX2_addToBill 36 = .ok (.dup2, 1) := by decide +kernel
theorem dX2_addToBill_37 : decode cX2_addToBill 37 = .ok (.iaload, 1) := by decide +kernel
theorem dX2_addToBill_38 : decode cX2_addToBill 38 = .ok (.iload_n 3, 1) := by decide +kernel
theorem dX2_addToBill_39 : decode cX2_addToBill 39 = .ok (.iadd, 1) := by decide +kernel
theorem dX2_addToBill_40 : decode cX2_addToBill 40 = .ok (.iastore, 1) := by decide +kernel
theorem dX2_addToBill_41 : decode cX2_addToBill 41 = .ok (.return_, 1) := by decide +kernel
theorem dX2_flyNext_0 : decode cX2_flyNext 0 = .ok (.aload_n 0, 1) := by decide +kernel
theorem dX2_flyNext_1 : decode cX2_flyNext 1 = .ok (.getfield 15, 3) := by decide +kernel
theorem dX2_flyNext_4 : decode cX2_flyNext 4 = .ok (.iload_n 1, 1) := by decide +kernel
theorem dX2_flyNext_5 : decode cX2_flyNext 5 = .ok (.iaload, 1) := by decide +kernel
theorem dX2_flyNext_6 : decode cX2_flyNext 6 = .ok (.istore_n 3, 1) := by decide +kernel
theorem dX2_flyNext_7 : decode cX2_flyNext 7 = .ok (.iload_n 3, 1) := by decide +kernel
theorem dX2_flyNext_8 : decode cX2_flyNext 8 = .ok (.bipush 8, 2) := by decide +kernel
theorem dX2_flyNext_10 : decode cX2_flyNext 10 = .ok (.if_icmp .lt 4, 3) := by decide +kernel
theorem dX2_flyNext_13 : decode cX2_flyNext 13 = .ok (.return_, 1) := by decide +kernel
theorem dX2_flyNext_14 : decode cX2_flyNext 14 = .ok (.aload_n 0, 1) := by decide +kernel
theorem dX2_flyNext_15 : decode cX2_flyNext 15 = .ok (.getfield 27, 3) := by decide +kernel
theorem dX2_flyNext_18 : decode cX2_flyNext 18 = .ok (.iload_n 1, 1) := by decide +kernel
theorem dX2_flyNext_19 : decode cX2_flyNext 19 = .ok (.aaload, 1) := by decide +kernel
theorem dX2_flyNext_20 : decode cX2_flyNext 20 = .ok (.iload_n 3, 1) := by decide +kernel
theorem dX2_flyNext_21 : decode cX2_flyNext 21 = .ok (.iload_n 2, 1) := by decide +kernel
theorem dX2_flyNext_22 : decode cX2_flyNext 22 = .ok (.iastore, 1) := by decide +kernel
theorem dX2_flyNext_23 : decode cX2_flyNext 23 = .ok (.aload_n 0, 1) := by decide +kernel
theorem dX2_flyNext_24 : decode cX2_flyNext 24 = .ok (.iload_n 1, 1) := by decide +kernel
theorem dX2_flyNext_25 : decode cX2_flyNext 25 = .ok (.iload_n 3, 1) := by decide +kernel
theorem dX2_flyNext_26 : decode cX2_flyNext 26 = .ok (.iload_n 2, 1) := by decide +kernel
theorem dX2_flyNext_27 : decode cX2_flyNext 27 = .ok (.invokevirtual 55, 3) := by decide +kernel
theorem dX2_flyNext_30 : decode cX2_flyNext 30 = .ok (.aload_n 0, 1) := by decide +kernel
theorem dX2_flyNext_31 : decode cX2_flyNext 31 = .ok (.getfield 15, 3) := by decide +kernel
theorem dX2_flyNext_34 : decode cX2_flyNext 34 = .ok (.iload_n 1, 1) := by decide +kernel
theorem dX2_flyNext_35 : decode cX2_flyNext 35 = .ok (.dup2, 1) := by decide +kernel
theorem dX2_flyNext_36 : decode cX2_flyNext 36 = .ok (.iaload, 1) := by decide +kernel
theorem dX2_flyNext_37 : decode cX2_flyNext 37 = .ok (.iconst 1, 1) := by decide +kernel
theorem dX2_flyNext_38 : decode cX2_flyNext 38 = .ok (.iadd, 1) := by decide +kernel
theorem dX2_flyNext_39 : decode cX2_flyNext 39 = .ok (.iastore, 1) := by decide +kernel
theorem dX2_flyNext_40 : decode cX2_flyNext 40 = .ok (.aload_n 0, 1) := by decide +kernel
theorem dX2_flyNext_41 : decode cX2_flyNext 41 = .ok (.iconst 0, 1) := by decide +kernel
theorem dX2_flyNext_42 : decode cX2_flyNext 42 = .ok (.iload_n 1, 1) := by decide +kernel
theorem dX2_flyNext_43 : decode cX2_flyNext 43 = .ok (.iload_n 3, 1) := by decide +kernel
theorem dX2_flyNext_44 : decode cX2_flyNext 44 = .ok (.iconst (-1), 1) := by decide +kernel
theorem dX2_flyNext_45 : decode cX2_flyNext 45 = .ok (.invokevirtual 59, 3) := by decide +kernel
theorem dX2_flyNext_48 : decode cX2_flyNext 48 = .ok (.pop, 1) := by decide +kernel
theorem dX2_flyNext_49 : decode cX2_flyNext 49 = .ok (.return_, 1) := by decide +kernel
theorem dX2_endorseTo_0 : decode cX2_endorseTo 0 = .ok (.aload_n 0, 1) := by decide +kernel
theorem dX2_endorseTo_1 : decode cX2_endorseTo 1 = .ok (.iconst 1, 1) := by decide +kernel
theorem dX2_endorseTo_2 : decode cX2_endorseTo 2 = .ok (.iload_n 1, 1) := by decide +kernel
theorem dX2_endorseTo_3 : decode cX2_endorseTo 3 = .ok (.iload_n 2, 1) := by decide +kernel
theorem dX2_endorseTo_4 : decode cX2_endorseTo 4 = .ok (.aload_n 0, 1) := by decide +kernel
theorem dX2_endorseTo_5 : decode cX2_endorseTo 5 = .ok (.getfield 24, 3) := by decide +kernel
theorem dX2_endorseTo_8 : decode cX2_endorseTo 8 = .ok (.iload_n 1, 1) := by decide +kernel
theorem dX2_endorseTo_9 : decode cX2_endorseTo 9 = .ok (.aaload, 1) := by decide +kernel
theorem dX2_endorseTo_10 : decode cX2_endorseTo 10 = .ok (.iload_n 2, 1) := by decide +kernel
theorem dX2_endorseTo_11 : decode cX2_endorseTo 11 = .ok (.iaload, 1) := by decide +kernel
theorem dX2_endorseTo_12 : decode cX2_endorseTo 12 = .ok (.invokevirtual 59, 3) := by decide +kernel
theorem dX2_endorseTo_15 : decode cX2_endorseTo 15 = .ok (.pop, 1) := by decide +kernel
theorem dX2_endorseTo_16 : decode cX2_endorseTo 16 = .ok (.aload_n 0, 1) := by decide +kernel
theorem dX2_endorseTo_17 : decode cX2_endorseTo 17 = .ok (.getfield 24, 3) := by decide +kernel
theorem dX2_endorseTo_20 : decode cX2_endorseTo 20 = .ok (.iload_n 1, 1) := by decide +kernel
theorem dX2_endorseTo_21 : decode cX2_endorseTo 21 = .ok (.aaload, 1) := by decide +kernel
theorem dX2_endorseTo_22 : decode cX2_endorseTo 22 = .ok (.iload_n 2, 1) := by decide +kernel
theorem dX2_endorseTo_23 : decode cX2_endorseTo 23 = .ok (.iload_n 3, 1) := by decide +kernel
theorem dX2_endorseTo_24 : decode cX2_endorseTo 24 = .ok (.iastore, 1) := by decide +kernel
theorem dX2_endorseTo_25 : decode cX2_endorseTo 25 = .ok (.return_, 1) := by decide +kernel
theorem dX3_init_0 : decode cX3_init 0 = .ok (.aload_n 0, 1) := by decide +kernel
theorem dX3_init_1 : decode cX3_init 1 = .ok (.invokespecial 3, 3) := by decide +kernel
theorem dX3_init_4 : decode cX3_init 4 = .ok (.aload_n 0, 1) := by decide +kernel
theorem dX3_init_5 : decode cX3_init 5 = .ok (.iconst 0, 1) := by decide +kernel
theorem dX3_init_6 : decode cX3_init 6 = .ok (.putfield 9, 3) := by decide +kernel
theorem dX3_init_9 : decode cX3_init 9 = .ok (.aload_n 0, 1) := by decide +kernel
theorem dX3_init_10 : decode cX3_init 10 = .ok (.iconst 0, 1) := by decide +kernel
theorem dX3_init_11 : decode cX3_init 11 = .ok (.putfield 15, 3) := by decide +kernel
theorem dX3_init_14 : decode cX3_init 14 = .ok (.aload_n 0, 1) := by decide +kernel
theorem dX3_init_15 : decode cX3_init 15 = .ok (.getstatic 18, 3) := by decide +kernel
theorem dX3_init_18 : decode cX3_init 18 = .ok (.putfield 24, 3) := by decide +kernel
theorem dX3_init_21 : decode cX3_init 21 = .ok (.aload_n 0, 1) := by decide +kernel
theorem dX3_init_22 : decode cX3_init 22 = .ok (.iconst 0, 1) := by decide +kernel
theorem dX3_init_23 : decode cX3_init 23 = .ok (.putfield 27, 3) := by decide +kernel
theorem dX3_init_26 : decode cX3_init 26 = .ok (.aload_n 0, 1) := by decide +kernel
theorem dX3_init_27 : decode cX3_init 27 = .ok (.lconst 0, 1) := by decide +kernel
theorem dX3_init_28 : decode cX3_init 28 = .ok (.putfield 30, 3) := by decide +kernel
theorem dX3_init_31 : decode cX3_init 31 = .ok (.aload_n 0, 1) := by decide +kernel
theorem dX3_init_32 : decode cX3_init 32 = .ok (.iconst 0, 1) := by decide +kernel
theorem dX3_init_33 : decode cX3_init 33 = .ok (.putfield 34, 3) := by decide +kernel
theorem dX3_init_36 : decode cX3_init 36 = .ok (.aload_n 0, 1) := by decide +kernel
theorem dX3_init_37 : decode cX3_init 37 = .ok (.iconst 0, 1) := by decide +kernel
theorem dX3_init_38 : decode cX3_init 38 = .ok (.putfield 37, 3) := by decide +kernel
theorem dX3_init_41 : decode cX3_init 41 = .ok (.aload_n 0, 1) := by decide +kernel
theorem dX3_init_42 : decode cX3_init 42 = .ok (.iconst 0, 1) := by decide +kernel
theorem dX3_init_43 : decode cX3_init 43 = .ok (.putfield 40, 3) := by decide +kernel
theorem dX3_init_46 : decode cX3_init 46 = .ok (.aload_n 0, 1) := by decide +kernel
theorem dX3_init_47 : decode cX3_init 47 = .ok (.iconst (-1), 1) := by decide +kernel
theorem dX3_init_48 : decode cX3_init 48 = .ok (.putfield 43, 3) := by decide +kernel
theorem dX3_init_51 : decode cX3_init 51 = .ok (.aload_n 0, 1) := by decide +kernel
theorem dX3_init_52 : decode cX3_init 52 = .ok (.aload_n 1, 1) := by decide +kernel
theorem dX3_init_53 : decode cX3_init 53 = .ok (.putfield 46, 3) := by decide +kernel
theorem dX3_init_56 : decode cX3_init 56 = .ok (.aload_n 0, 1) := by decide +kernel
theorem dX3_init_57 : decode cX3_init 57 = .ok (.aload_n 2, 1) := by decide +kernel
theorem dX3_init_58 : decode cX3_init 58 = .ok (.putfield 50, 3) := by decide +kernel
theorem dX3_init_61 : decode cX3_init 61 = .ok (.return_, 1) := by decide +kernel
theorem dX3_open_0 : decode cX3_open 0 = .ok (.aload_n 0, 1) := by decide +kernel
theorem dX3_open_1 : decode cX3_open 1 = .ok (.aload_n 1, 1) := by decide +kernel
theorem dX3_open_2 : decode cX3_open 2 = .ok (.putfield 50, 3) := by decide +kernel
theorem dX3_open_5 : decode cX3_open 5 = .ok (.aload_n 0, 1) := by decide +kernel
theorem dX3_open_6 : decode cX3_open 6 = .ok (.getfield 50, 3) := by decide +kernel
theorem dX3_open_9 : decode cX3_open 9 = .ok (.invokevirtual 54, 3) := by decide +kernel
theorem dX3_open_12 : decode cX3_open 12 = .ok (.aload_n 0, 1) := by decide +kernel
theorem dX3_open_13 : decode cX3_open 13 = .ok (.iload_n 2, 1) := by decide +kernel
theorem dX3_open_14 : decode cX3_open 14 = .ok (.aload_n 0, 1) := by decide +kernel
theorem dX3_open_15 : decode cX3_open 15 = .ok (.getfield 46, 3) := by decide +kernel
theorem dX3_open_18 : decode cX3_open 18 = .ok (.arraylength, 1) := by decide +kernel
theorem dX3_open_19 : decode cX3_open 19 = .ok (.invokestatic 59, 3) := by decide +kernel
theorem dX3_open_22 : decode cX3_open 22 = .ok (.putfield 9, 3) := by decide +kernel
theorem dX3_open_25 : decode cX3_open 25 = .ok (.aload_n 0, 1) := by decide +kernel
theorem dX3_open_26 : decode cX3_open 26 = .ok (.iconst 0, 1) := by decide +kernel
theorem dX3_open_27 : decode cX3_open 27 = .ok (.putfield 15, 3) := by decide +kernel
theorem dX3_open_30 : decode cX3_open 30 = .ok (.aload_n 0, 1) := by decide +kernel
theorem dX3_open_31 : decode cX3_open 31 = .ok (.iconst 0, 1) := by decide +kernel
theorem dX3_open_32 : decode cX3_open 32 = .ok (.putfield 40, 3) := by decide +kernel
theorem dX3_open_35 : decode cX3_open 35 = .ok (.aload_n 0, 1) := by decide +kernel
theorem dX3_open_36 : decode cX3_open 36 = .ok (.iconst (-1), 1) := by decide +kernel
theorem dX3_open_37 : decode cX3_open 37 = .ok (.putfield 43, 3) := by decide +kernel
theorem dX3_open_40 : decode cX3_open 40 = .ok (.aload_n 0, 1) := by decide +kernel
theorem dX3_open_41 : decode cX3_open 41 = .ok (.invokevirtual 65, 3) := by decide +kernel
theorem dX3_open_44 : decode cX3_open 44 = .ok (.return_, 1) := by decide +kernel
theorem dX3_hasLine_0 : decode cX3_hasLine 0 = .ok (.aload_n 0, 1) := by decide +kernel
theorem dX3_hasLine_1 : decode cX3_hasLine 1 = .ok (.getfield 24, 3) := by decide +kernel
theorem dX3_hasLine_4 : decode cX3_hasLine 4 = .ok (.getstatic 18, 3) := by decide +kernel
theorem dX3_hasLine_7 : decode cX3_hasLine 7 = .ok (.if_acmp .eq 7, 3) := by decide +kernel
theorem dX3_hasLine_10 : decode cX3_hasLine 10 = .ok (.iconst 1, 1) := by decide +kernel
theorem dX3_hasLine_11 : decode cX3_hasLine 11 = .ok (.goto 4, 3) := by decide +kernel
theorem dX3_hasLine_14 : decode cX3_hasLine 14 = .ok (.iconst 0, 1) := by decide +kernel
theorem dX3_hasLine_15 : decode cX3_hasLine 15 = .ok (.ireturn, 1) := by decide +kernel
theorem dX3_step_0 : decode cX3_step 0 = .ok (.aload_n 0, 1) := by decide +kernel
theorem dX3_step_1 : decode cX3_step 1 = .ok (.aload_n 0, 1) := by decide +kernel
theorem dX3_step_2 : decode cX3_step 2 = .ok (.getfield 27, 3) := by decide +kernel
theorem dX3_step_5 : decode cX3_step 5 = .ok (.putfield 37, 3) := by decide +kernel
theorem dX3_step_8 : decode cX3_step 8 = .ok (.aload_n 0, 1) := by decide +kernel
theorem dX3_step_9 : decode cX3_step 9 = .ok (.getfield 15, 3) := by decide +kernel
theorem dX3_step_12 : decode cX3_step 12 = .ok (.aload_n 0, 1) := by decide +kernel
theorem dX3_step_13 : decode cX3_step 13 = .ok (.getfield 9, 3) := by decide +kernel
theorem dX3_step_16 : decode cX3_step 16 = .ok (.if_icmp .ge 44, 3) := by decide +kernel
theorem dX3_step_19 : decode cX3_step 19 = .ok (.aload_n 0, 1) := by decide +kernel
theorem dX3_step_20 : decode cX3_step 20 = .ok (.getfield 46, 3) := by decide +kernel
theorem dX3_step_23 : decode cX3_step 23 = .ok (.aload_n 0, 1) := by decide +kernel
theorem dX3_step_24 : decode cX3_step 24 = .ok (.getfield 15, 3) := by decide +kernel
theorem dX3_step_27 : decode cX3_step 27 = .ok (.iaload, 1) := by decide +kernel
theorem dX3_step_28 : decode cX3_step 28 = .ok (.bipush 32, 2) := by decide +kernel
theorem dX3_step_30 : decode cX3_step 30 = .ok (.if_icmp .eq 17, 3) := by decide +kernel
theorem dX3_step_33 : decode cX3_step 33 = .ok (.aload_n 0, 1) := by decide +kernel
theorem dX3_step_34 : decode cX3_step 34 = .ok (.getfield 46, 3) := by decide +kernel
theorem dX3_step_37 : decode cX3_step 37 = .ok (.aload_n 0, 1) := by decide +kernel
theorem dX3_step_38 : decode cX3_step 38 = .ok (.getfield 15, 3) := by decide +kernel
theorem dX3_step_41 : decode cX3_step 41 = .ok (.iaload, 1) := by decide +kernel
theorem dX3_step_42 : decode cX3_step 42 = .ok (.bipush 10, 2) := by decide +kernel
theorem dX3_step_44 : decode cX3_step 44 = .ok (.if_icmp .ne 16, 3) := by decide +kernel
theorem dX3_step_47 : decode cX3_step 47 = .ok (.aload_n 0, 1) := by decide +kernel
theorem dX3_step_48 : decode cX3_step 48 = .ok (.dup, 1) := by decide +kernel
theorem dX3_step_49 : decode cX3_step 49 = .ok (.getfield 15, 3) := by decide +kernel
theorem dX3_step_52 : decode cX3_step 52 = .ok (.iconst 1, 1) := by decide +kernel
theorem dX3_step_53 : decode cX3_step 53 = .ok (.iadd, 1) := by decide +kernel
theorem dX3_step_54 : decode cX3_step 54 = .ok (.putfield 15, 3) := by decide +kernel
theorem dX3_step_57 : decode cX3_step 57 = .ok (.goto (-49), 3) := by decide +kernel
theorem dX3_step_60 : decode cX3_step 60 = .ok (.aload_n 0, 1) := by decide +kernel
theorem dX3_step_61 : decode cX3_step 61 = .ok (.aload_n 0, 1) := by decide +kernel
theorem dX3_step_62 : decode cX3_step 62 = .ok (.getfield 15, 3) := by decide +kernel
theorem dX3_step_65 : decode cX3_step 65 = .ok (.putfield 27, 3) := by decide +kernel
theorem dX3_step_68 : decode cX3_step 68 = .ok (.aload_n 0, 1) := by decide +kernel
theorem dX3_step_69 : decode cX3_step 69 = .ok (.getfield 15, 3) := by decide +kernel
theorem dX3_step_72 : decode cX3_step 72 = .ok (.aload_n 0, 1) := by decide +kernel
theorem dX3_step_73 : decode cX3_step 73 = .ok (.getfield 9, 3) := by decide +kernel
theorem dX3_step_76 : decode cX3_step 76 = .ok (.if_icmp .lt 13, 3) := by decide +kernel
theorem dX3_step_79 : decode cX3_step 79 = .ok (.aload_n 0, 1) := by decide +kernel
theorem dX3_step_80 : decode cX3_step 80 = .ok (.getstatic 18, 3) := by decide +kernel
theorem dX3_step_83 : decode cX3_step 83 = .ok (.putfield 24, 3) := by decide +kernel
theorem dX3_step_86 : decode cX3_step 86 = .ok (.goto 110, 3) := by decide +kernel
theorem dX3_step_89 : decode cX3_step 89 = .ok (.aload_n 0, 1) := by decide +kernel
theorem dX3_step_90 : decode cX3_step 90 = .ok (.getfield 46, 3) := by decide +kernel
theorem dX3_step_93 : decode cX3_step 93 = .ok (.aload_n 0, 1) := by decide +kernel
theorem dX3_step_94 : decode cX3_step 94 = .ok (.getfield 15, 3) := by decide +kernel
theorem dX3_step_97 : decode cX3_step 97 = .ok (.iaload, 1) := by decide +kernel
theorem dX3_step_98 : decode cX3_step 98 = .ok (.bipush 97, 2) := by decide +kernel
theorem dX3_step_100 : decode cX3_step 100 = .ok (.if_icmp .lt 24, 3) := by decide +kernel
theorem dX3_step_103 : decode cX3_step 103 = .ok (.aload_n 0, 1) := by decide +kernel
theorem dX3_step_104 : decode cX3_step 104 = .ok (.getfield 46, 3) := by decide +kernel
theorem dX3_step_107 : decode cX3_step 107 = .ok (.aload_n 0, 1) := by decide +kernel
theorem dX3_step_108 : decode cX3_step 108 = .ok (.getfield 15, 3) := by decide +kernel
theorem dX3_step_111 : decode cX3_step 111 = .ok (.iaload, 1) := by decide +kernel
theorem dX3_step_112 : decode cX3_step 112 = .ok (.bipush 122, 2) := by decide +kernel
theorem dX3_step_114 : decode cX3_step 114 = .ok (.if_icmp .gt 10, 3) := by decide +kernel
theorem dX3_step_117 : decode cX3_step 117 = .ok (.aload_n 0, 1) := by decide +kernel
theorem dX3_step_118 : decode cX3_step 118 = .ok (.invokevirtual 68, 3) := by decide +kernel
theorem dX3_step_121 : decode cX3_step 121 = .ok (.goto 75, 3) := by decide +kernel
theorem dX3_step_124 : decode cX3_step 124 = .ok (.aload_n 0, 1) := by decide +kernel
theorem dX3_step_125 : decode cX3_step 125 = .ok (.getfield 46, 3) := by decide +kernel
theorem dX3_step_128 : decode cX3_step 128 = .ok (.aload_n 0, 1) := by decide +kernel
theorem dX3_step_129 : decode cX3_step 129 = .ok (.getfield 15, 3) := by decide +kernel
theorem dX3_step_132 : decode cX3_step 132 = .ok (.iaload, 1) := by decide +kernel
theorem dX3_step_133 : decode cX3_step 133 = .ok (.bipush 48, 2) := by decide +kernel
theorem dX3_step_135 : decode cX3_step 135 = .ok (.if_icmp .lt 24, 3) := by decide +kernel
theorem dX3_step_138 : decode cX3_step 138 = .ok (.aload_n 0, 1) := by decide +kernel
theorem dX3_step_139 : decode cX3_step 139 = .ok (.getfield 46, 3) := by decide +kernel
theorem dX3_step_142 : decode cX3_step 142 = .ok (.aload_n 0, 1) := by decide +kernel
theorem dX3_step_143 : decode cX3_step 143 = .ok (.getfield 15, 3) := by decide +kernel
theorem dX3_step_146 : decode cX3_step 146 = .ok (.iaload, 1) := by decide +kernel
theorem dX3_step_147 : decode cX3_step 147 = .ok (.bipush 57, 2) := by decide +kernel
theorem dX3_step_149 : decode cX3_step 149 = .ok (.if_icmp .gt 10, 3) := by decide +kernel
theorem dX3_step_152 : decode cX3_step 152 = .ok (.aload_n 0, 1) := by decide +kernel
theorem dX3_step_153 : decode cX3_step 153 = .ok (.invokevirtual 71, 3) := by decide +kernel
theorem dX3_step_156 : decode cX3_step 156 = .ok (.goto 40, 3) := by decide +kernel
theorem dX3_step_159 : decode cX3_step 159 = .ok (.aload_n 0, 1) := by decide +kernel
theorem dX3_step_160 : decode cX3_step 160 = .ok (.aload_n 0, 1) := by decide +kernel
theorem dX3_step_161 : decode cX3_step 161 = .ok (.getfield 46, 3) := by decide +kernel
theorem dX3_step_164 : decode cX3_step 164 = .ok (.aload_n 0, 1) := by decide +kernel
theorem dX3_step_165 : decode cX3_step 165 = .ok (.getfield 15, 3) := by decide +kernel
theorem dX3_step_168 : decode cX3_step 168 = .ok (.iaload, 1) := by decide +kernel
theorem dX3_step_169 : decode cX3_step 169 = .ok (.bipush 59, 2) := by decide +kernel
theorem dX3_step_171 : decode cX3_step 171 = .ok (.if_icmp .ne 9, 3) := by decide +kernel
theorem dX3_step_174 : decode cX3_step 174 = .ok (.getstatic 74, 3) := by decide +kernel
theorem dX3_step_177 : decode cX3_step 177 = .ok (.goto 6, 3) := by decide +kernel
theorem dX3_step_180 : decode cX3_step 180 = .ok (.getstatic 77, 3) := by decide +kernel
theorem dX3_step_183 : decode cX3_step 183 = .ok (.putfield 24, 3) := by decide +kernel
theorem dX3_step_186 : decode cX3_step 186 = .ok (.aload_n 0, 1) := by decide +kernel
theorem dX3_step_187 : decode cX3_step 187 = .ok (.dup, 1) := by decide +kernel
theorem dX3_step_188 : decode cX3_step 188 = .ok (.getfield 15, 3) := by decide +kernel
theorem dX3_step_191 : decode cX3_step 191 = .ok (.iconst 1, 1) := by decide +kernel
theorem dX3_step_192 : decode cX3_step 192 = .ok (.iadd, 1) := by decide +kernel
theorem dX3_step_193 : decode cX3_step 193 = .ok (.putfield 15, 3) := by decide +kernel
theorem dX3_step_196 : decode cX3_step 196 = .ok (.return_, 1) := by decide +kernel
theorem dX3_scanWord_0 : decode cX3_scanWord 0 = .ok (.aload_n 0, 1) := by decide +kernel
theorem dX3_scanWord_1 : decode cX3_scanWord 1 = .ok (.getfield 15, 3) := by decide +kernel
theorem dX3_scanWord_4 : decode cX3_scanWord 4 = .ok (.istore_n 1, 1) := by decide +kernel
theorem dX3_scanWord_5 : decode cX3_scanWord 5 = .ok (.aload_n 0, 1) := by decide +kernel
theorem dX3_scanWord_6 : decode cX3_scanWord 6 = .ok (.lconst 0, 1) := by decide +kernel
theorem dX3_scanWord_7 : decode cX3_scanWord 7 = .ok (.putfield 30, 3) := by decide +kernel
theorem dX3_scanWord_10 : decode cX3_scanWord 10 = .ok (.aload_n 0, 1) := by decide +kernel
theorem dX3_scanWord_11 : decode cX3_scanWord 11 = .ok (.getfield 15, 3) := by decide +kernel
theorem dX3_scanWord_14 : decode cX3_scanWord 14 = .ok (.aload_n 0, 1) := by decide +kernel
theorem dX3_scanWord_15 : decode cX3_scanWord 15 = .ok (.getfield 9, 3) := by decide +kernel
theorem dX3_scanWord_18 : decode cX3_scanWord 18 = .ok (.if_icmp .ge 83, 3) := by decide +kernel
theorem dX3_scanWord_21 : decode cX3_scanWord 21 = .ok (.aload_n 0, 1) := by decide +kernel
theorem dX3_scanWord_22 : decode cX3_scanWord 22 = .ok (.getfield 46, 3) := by decide +kernel
theorem dX3_scanWord_25 : decode cX3_scanWord 25 = .ok (.aload_n 0, 1) := by decide +kernel
theorem dX3_scanWord_26 : decode cX3_scanWord 26 = .ok (.getfield 15, 3) := by decide +kernel
theorem dX3_scanWord_29 : decode cX3_scanWord 29 = .ok (.iaload, 1) := by decide +kernel
theorem dX3_scanWord_30 : decode cX3_scanWord 30 = .ok (.bipush 97, 2) := by decide +kernel
theorem dX3_scanWord_32 : decode cX3_scanWord 32 = .ok (.if_icmp .lt 69, 3) := by decide +kernel
theorem dX3_scanWord_35 : decode cX3_scanWord 35 = .ok (.aload_n 0, 1) := by decide +kernel
theorem dX3_scanWord_36 : decode cX3_scanWord 36 = .ok (.getfield 46, 3) := by decide +kernel
theorem dX3_scanWord_39 : decode cX3_scanWord 39 = .ok (.aload_n 0, 1) := by decide +kernel
theorem dX3_scanWord_40 : decode cX3_scanWord 40 = .ok (.getfield 15, 3) := by decide +kernel
theorem dX3_scanWord_43 : decode cX3_scanWord 43 = .ok (.iaload, 1) := by decide +kernel
theorem dX3_scanWord_44 : decode cX3_scanWord 44 = .ok (.bipush 122, 2) := by decide +kernel
theorem dX3_scanWord_46 : decode cX3_scanWord 46 = .ok (.if_icmp .gt 55, 3) := by decide +kernel
theorem dX3_scanWord_49 : decode cX3_scanWord 49 = .ok (.aload_n 0, 1) := by decide +kernel
theorem dX3_scanWord_50 : decode cX3_scanWord 50 = .ok (.getfield 15, 3) := by decide +kernel
theorem dX3_scanWord_53 : decode cX3_scanWord 53 = .ok (.iload_n 1, 1) := by decide +kernel
theorem dX3_scanWord_54 : decode cX3_scanWord 54 = .ok (.isub, 1) := by decide +kernel
theorem dX3_scanWord_55 : decode cX3_scanWord 55 = .ok (.bipush 7, 2) := by decide +kernel
theorem dX3_scanWord_57 : decode cX3_scanWord 57 = .ok (.if_icmp .ge 31, 3) := by decide +kernel
theorem dX3_scanWord_60 : decode cX3_scanWord 60 = .ok (.aload_n 0, 1) := by decide +kernel
theorem dX3_scanWord_61 : decode cX3_scanWord 61 = .ok (.aload_n 0, 1) := by decide +kernel
theorem dX3_scanWord_62 : decode cX3_scanWord 62 = .ok (.getfield 30, 3) := by decide +kernel
theorem dX3_scanWord_65 : decode cX3_scanWord 65 = .ok (.ldc2_w 80, 3) := by decide +kernel
theorem dX3_scanWord_68 : decode cX3_scanWord 68 = .ok (.lmul, 1) := by decide +kernel
theorem dX3_scanWord_69 : decode cX3_scanWord 69 = .ok (.aload_n 0, 1) := by decide +kernel
theorem dX3_scanWord_70 : decode cX3_scanWord 70 = .ok (.getfield 46, 3) := by decide +kernel
theorem dX3_scanWord_73 : decode cX3_scanWord 73 = .ok (.aload_n 0, 1) := by decide +kernel
theorem dX3_scanWord_74 : decode cX3_scanWord 74 = .ok (.getfield 15, 3) := by decide +kernel
theorem dX3_scanWord_77 : decode cX3_scanWord 77 = .ok (.iaload, 1) := by decide +kernel
theorem dX3_scanWord_78 : decode cX3_scanWord 78 = .ok (.bipush 97, 2) := by decide +kernel
theorem dX3_scanWord_80 : decode cX3_scanWord 80 = .ok (.isub, 1) := by decide +kernel
theorem dX3_scanWord_81 : decode cX3_scanWord 81 = .ok (.iconst 1, 1) := by decide +kernel
theorem dX3_scanWord_82 : decode cX3_scanWord 82 = .ok (.iadd, 1) := by decide +kernel
theorem dX3_scanWord_83 : decode cX3_scanWord 83 = .ok (.i2l, 1) := by decide +kernel
theorem dX3_scanWord_84 : decode cX3_scanWord 84 = .ok (.ladd, 1) := by decide +kernel
theorem dX3_scanWord_85 : decode cX3_scanWord 85 = .ok (.putfield 30, 3) := by decide +kernel
theorem dX3_scanWord_88 : decode cX3_scanWord 88 = .ok (.aload_n 0, 1) := by decide +kernel
theorem dX3_scanWord_89 : decode cX3_scanWord 89 = .ok (.dup, 1) := by decide +kernel
theorem dX3_scanWord_90 : decode cX3_scanWord 90 = .ok (.getfield 15, 3) := by decide +kernel
theorem dX3_scanWord_93 : decode cX3_scanWord 93 = .ok (.iconst 1, 1) := by decide +kernel
theorem dX3_scanWord_94 : decode cX3_scanWord 94 = .ok (.iadd, 1) := by decide +kernel
theorem dX3_scanWord_95 : decode cX3_scanWord 95 = .ok (.putfield 15, 3) := by decide +kernel
theorem dX3_scanWord_98 : decode cX3_scanWord 98 = .ok (.goto (-88), 3) := by decide +kernel
theorem dX3_scanWord_101 : decode cX3_scanWord 101 = .ok (.aload_n 0, 1) := by decide +kernel
theorem dX3_scanWord_102 : decode cX3_scanWord 102 = .ok (.getfield 15, 3) := by decide +kernel
theorem dX3_scanWord_105 : decode cX3_scanWord 105 = .ok (.iload_n 1, 1) := by decide +kernel
theorem dX3_scanWord_106 : decode cX3_scanWord 106 = .ok (.isub, 1) := by decide +kernel
theorem dX3_scanWord_107 : decode cX3_scanWord 107 = .ok (.istore_n 2, 1) := by decide +kernel
theorem dX3_scanWord_108 : decode cX3_scanWord 108 = .ok (.aload_n 0, 1) := by decide +kernel
theorem dX3_scanWord_109 : decode cX3_scanWord 109 = .ok (.iload_n 2, 1) := by decide +kernel
theorem dX3_scanWord_110 : decode cX3_scanWord 110 = .ok (.bipush 6, 2) := by decide +kernel
theorem dX3_scanWord_112 : decode cX3_scanWord 112 = .ok (.if_icmp .le 9, 3) := by decide +kernel
theorem dX3_scanWord_115 : decode cX3_scanWord 115 = .ok (.getstatic 77, 3) := by decide +kernel
theorem dX3_scanWord_118 : decode cX3_scanWord 118 = .ok (.goto 6, 3) := by decide +kernel
theorem dX3_scanWord_121 : decode cX3_scanWord 121 = .ok (.getstatic 82, 3) := by decide +kernel
theorem dX3_scanWord_124 : decode cX3_scanWord 124 = .ok (.putfield 24, 3) := by decide +kernel
theorem dX3_scanWord_127 : decode cX3_scanWord 127 = .ok (.iconst 0, 1) := by decide +kernel
theorem dX3_scanWord_128 : decode cX3_scanWord 128 = .ok (.istore_n 3, 1) := by decide +kernel
theorem dX3_scanWord_129 : decode cX3_scanWord 129 = .ok (.iload_n 3, 1) := by decide +kernel
theorem dX3_scanWord_130 : decode cX3_scanWord 130 = .ok (.getstatic 85, 3) := by decide +kernel
theorem dX3_scanWord_133 : decode cX3_scanWord 133 = .ok (.arraylength, 1) := by decide +kernel
theorem dX3_scanWord_134 : decode cX3_scanWord 134 = .ok (.if_icmp .ge 40, 3) := by decide +kernel
theorem dX3_scanWord_137 : decode cX3_scanWord 137 = .ok (.iload_n 2, 1) := by decide +kernel
theorem dX3_scanWord_138 : decode cX3_scanWord 138 = .ok (.bipush 7, 2) := by decide +kernel
theorem dX3_scanWord_140 : decode cX3_scanWord 140 = .ok (.if_icmp .gt 28, 3) := by decide +kernel
theorem dX3_scanWord_143 : decode cX3_scanWord 143 = .ok (.getstatic 85, 3) := by decide +kernel
theorem dX3_scanWord_146 : decode cX3_scanWord 146 = .ok (.iload_n 3, 1) := by decide +kernel
theorem dX3_scanWord_147 : decode cX3_scanWord 147 = .ok (.aaload, 1) := by decide +kernel
theorem dX3_scanWord_148 : decode cX3_scanWord 148 = .ok (.getfield 89, 3) := by decide +kernel
theorem dX3_scanWord_151 : decode cX3_scanWord 151 = .ok (.aload_n 0, 1) := by decide +kernel
theorem dX3_scanWord_152 : decode cX3_scanWord 152 = .ok (.getfield 30, 3) := by decide +kernel
theorem dX3_scanWord_155 : decode cX3_scanWord 155 = .ok (.lcmp, 1) := by decide +kernel
theorem dX3_scanWord_156 : decode cX3_scanWord 156 = .ok (.ifCond .ne 12, 3) := by decide +kernel
theorem dX3_scanWord_159 : decode cX3_scanWord 159 = .ok (.aload_n 0, 1) := by decide +kernel
theorem dX3_scanWord_160 : decode cX3_scanWord 160 = .ok (.getstatic 85, 3) := by decide +kernel
theorem dX3_scanWord_163 : decode cX3_scanWord 163 = .ok (.iload_n 3, 1) := by decide +kernel
theorem dX3_scanWord_164 : decode cX3_scanWord 164 = .ok (.aaload, 1) := by decide +kernel
theorem dX3_scanWord_165 : decode cX3_scanWord 165 = .ok (.putfield 24, 3) := by decide +kernel
theorem dX3_scanWord_168 : decode cX3_scanWord 168 = .ok (.iinc 3 1, 3) := by decide +kernel
theorem dX3_scanWord_171 : decode cX3_scanWord 171 = .ok (.goto (-42), 3) := by decide +kernel
theorem dX3_scanWord_174 : decode cX3_scanWord 174 = .ok (.return_, 1) := by decide +kernel
theorem dX3_scanNumber_0 : decode cX3_scanNumber 0 = .ok (.aload_n 0, 1) := by decide +kernel
theorem dX3_scanNumber_1 : decode cX3_scanNumber 1 = .ok (.getstatic 92, 3) := by decide +kernel
theorem dX3_scanNumber_4 : decode cX3_scanNumber 4 = .ok (.putfield 24, 3) := by decide +kernel
theorem dX3_scanNumber_7 : decode cX3_scanNumber 7 = .ok (.aload_n 0, 1) := by decide +kernel
theorem dX3_scanNumber_8 : decode cX3_scanNumber 8 = .ok (.iconst 0, 1) := by decide +kernel
theorem dX3_scanNumber_9 : decode cX3_scanNumber 9 = .ok (.putfield 34, 3) := by decide +kernel
theorem dX3_scanNumber_12 : decode cX3_scanNumber 12 = .ok (.aload_n 0, 1) := by decide +kernel
theorem dX3_scanNumber_13 : decode cX3_scanNumber 13 = .ok (.getfield 15, 3) := by decide +kernel
theorem dX3_scanNumber_16 : decode cX3_scanNumber 16 = .ok (.aload_n 0, 1) := by decide +kernel
theorem dX3_scanNumber_17 : decode cX3_scanNumber 17 = .ok (.getfield 9, 3) := by decide +kernel
theorem dX3_scanNumber_20 : decode cX3_scanNumber 20 = .ok (.if_icmp .ge 77, 3) := by decide +kernel
theorem dX3_scanNumber_23 : decode cX3_scanNumber 23 = .ok (.aload_n 0, 1) := by decide +kernel
theorem dX3_scanNumber_24 : decode cX3_scanNumber 24 = .ok (.getfield 46, 3) := by decide +kernel
theorem dX3_scanNumber_27 : decode cX3_scanNumber 27 = .ok (.aload_n 0, 1) := by decide +kernel
theorem dX3_scanNumber_28 : decode cX3_scanNumber 28 = .ok (.getfield 15, 3) := by decide +kernel
theorem dX3_scanNumber_31 : decode cX3_scanNumber 31 = .ok (.iaload, 1) := by decide +kernel
theorem dX3_scanNumber_32 : decode cX3_scanNumber 32 = .ok (.bipush 48, 2) := by decide +kernel
theorem dX3_scanNumber_34 : decode cX3_scanNumber 34 = .ok (.if_icmp .lt 63, 3) := by decide +kernel
theorem dX3_scanNumber_37 : decode cX3_scanNumber 37 = .ok (.aload_n 0, 1) := by decide +kernel
theorem dX3_scanNumber_38 : decode cX3_scanNumber 38 = .ok (.getfield 46, 3) := by decide +kernel
theorem dX3_scanNumber_41 : decode cX3_scanNumber 41 = .ok (.aload_n 0, 1) := by decide +kernel
theorem dX3_scanNumber_42 : decode cX3_scanNumber 42 = .ok (.getfield 15, 3) := by decide +kernel
theorem dX3_scanNumber_45 : decode cX3_scanNumber 45 = .ok (.iaload, 1) := by decide +kernel
theorem dX3_scanNumber_46 : decode cX3_scanNumber 46 = .ok (.bipush 57, 2) := by decide +kernel
theorem dX3_scanNumber_48 : decode cX3_scanNumber 48 = .ok (.if_icmp .gt 49, 3) := by decide +kernel
theorem dX3_scanNumber_51 : decode cX3_scanNumber 51 = .ok (.aload_n 0, 1) := by decide +kernel
theorem dX3_scanNumber_52 : decode cX3_scanNumber 52 = .ok (.getfield 34, 3) := by decide +kernel
theorem dX3_scanNumber_55 : decode cX3_scanNumber 55 = .ok (.ldc 95, 2) := by decide +kernel
theorem dX3_scanNumber_57 : decode cX3_scanNumber 57 = .ok (.if_icmp .ge 27, 3) := by decide +kernel
theorem dX3_scanNumber_60 : decode cX3_scanNumber 60 = .ok (.aload_n 0, 1) := by decide +kernel
theorem dX3_scanNumber_61 : decode cX3_scanNumber 61 = .ok (.aload_n 0, 1) := by decide +kernel
theorem dX3_scanNumber_62 : decode cX3_scanNumber 62 = .ok (.getfield 34, 3) := by decide +kernel
theorem dX3_scanNumber_65 : decode cX3_scanNumber 65 = .ok (.bipush 10, 2) := by decide +kernel
theorem dX3_scanNumber_67 : decode cX3_scanNumber 67 = .ok (.imul, 1) := by decide +kernel
theorem dX3_scanNumber_68 : decode cX3_scanNumber 68 = .ok (.aload_n 0, 1) := by decide +kernel
theorem dX3_scanNumber_69 : decode cX3_scanNumber 69 = .ok (.getfield 46, 3) := by decide +kernel
theorem dX3_scanNumber_72 : decode cX3_scanNumber 72 = .ok (.aload_n 0, 1) := by decide +kernel
theorem dX3_scanNumber_73 : decode cX3_scanNumber 73 = .ok (.getfield 15, 3) := by decide +kernel
theorem dX3_scanNumber_76 : decode cX3_scanNumber 76 = .ok (.iaload, 1) := by decide +kernel
theorem dX3_scanNumber_77 : decode cX3_scanNumber 77 = .ok (.bipush 48, 2) := by decide +kernel
theorem dX3_scanNumber_79 : decode cX3_scanNumber 79 = .ok (.isub, 1) := by decide +kernel
theorem dX3_scanNumber_80 : decode cX3_scanNumber 80 = .ok (.iadd, 1) := by decide +kernel
theorem dX3_scanNumber_81 : decode cX3_scanNumber 81 = .ok (.putfield 34, 3) := by decide +kernel
theorem dX3_scanNumber_84 : decode cX3_scanNumber 84 = .ok (.aload_n 0, 1) := by decide +kernel
theorem dX3_scanNumber_85 : decode cX3_scanNumber 85 = .ok (.dup, 1) := by decide +kernel
theorem dX3_scanNumber_86 : decode cX3_scanNumber 86 = .ok (.getfield 15, 3) := by decide +kernel
theorem dX3_scanNumber_89 : decode cX3_scanNumber 89 = .ok (.iconst 1, 1) := by decide +kernel
theorem dX3_scanNumber_90 : decode cX3_scanNumber 90 = .ok (.iadd, 1) := by decide +kernel
theorem dX3_scanNumber_91 : decode cX3_scanNumber 91 = .ok (.putfield 15, 3) := by decide +kernel
theorem dX3_scanNumber_94 : decode cX3_scanNumber 94 = .ok (.goto (-82), 3) := by decide +kernel
theorem dX3_scanNumber_97 : decode cX3_scanNumber 97 = .ok (.return_, 1) := by decide +kernel
theorem dX3_failAt_0 : decode cX3_failAt 0 = .ok (.aload_n 0, 1) := by decide +kernel
theorem dX3_failAt_1 : decode cX3_failAt 1 = .ok (.iload_n 2, 1) := by decide +kernel
theorem dX3_failAt_2 : decode cX3_failAt 2 = .ok (.putfield 40, 3) := by decide +kernel
theorem dX3_failAt_5 : decode cX3_failAt 5 = .ok (.aload_n 0, 1) := by decide +kernel
theorem dX3_failAt_6 : decode cX3_failAt 6 = .ok (.iload_n 1, 1) := by decide +kernel
theorem dX3_failAt_7 : decode cX3_failAt 7 = .ok (.putfield 43, 3) := by decide +kernel
theorem dX3_failAt_10 : decode cX3_failAt 10 = .ok (.iconst 0, 1) := by decide +kernel
theorem dX3_failAt_11 : decode cX3_failAt 11 = .ok (.ireturn, 1) := by decide +kernel
theorem dX3_failHere_0 : decode cX3_failHere 0 = .ok (.aload_n 0, 1) := by decide +kernel
theorem dX3_failHere_1 : decode cX3_failHere 1 = .ok (.aload_n 0, 1) := by decide +kernel
theorem dX3_failHere_2 : decode cX3_failHere 2 = .ok (.getfield 27, 3) := by decide +kernel
theorem dX3_failHere_5 : decode cX3_failHere 5 = .ok (.iload_n 1, 1) := by decide +kernel
theorem dX3_failHere_6 : decode cX3_failHere 6 = .ok (.invokevirtual 96, 3) := by decide +kernel
theorem dX3_failHere_9 : decode cX3_failHere 9 = .ok (.ireturn, 1) := by decide +kernel
theorem dX3_failTaken_0 : decode cX3_failTaken 0 = .ok (.aload_n 0, 1) := by decide +kernel
theorem dX3_failTaken_1 : decode cX3_failTaken 1 = .ok (.aload_n 0, 1) := by decide +kernel
theorem dX3_failTaken_2 : decode cX3_failTaken 2 = .ok (.getfield 37, 3) := by decide +kernel
theorem dX3_failTaken_5 : decode cX3_failTaken 5 = .ok (.iload_n 1, 1) := by decide +kernel
theorem dX3_failTaken_6 : decode cX3_failTaken 6 = .ok (.invokevirtual 96, 3) := by decide +kernel
theorem dX3_failTaken_9 : decode cX3_failTaken 9 = .ok (.ireturn, 1) := by decide +kernel
theorem dX3_readLine_0 : decode cX3_readLine 0 = .ok (.getstatic 100, 3) := by decide +kernel
theorem dX3_readLine_3 : decode cX3_readLine 3 = .ok (.aload_n 0, 1) := by decide +kernel
theorem dX3_readLine_4 : decode cX3_readLine 4 = .ok (.getfield 24, 3) := by decide +kernel
theorem dX3_readLine_7 : decode cX3_readLine 7 = .ok (.invokevirtual 105, 3) := by decide +kernel
theorem dX3_readLine_10 : decode cX3_readLine 10 = .ok (.iaload, 1) := by decide +kernel
theorem dX3_readLine_11 : decode cX3_readLine 11 = .ok (.tableswitch 242 1 8 #[45, 70, 95, 120, 144, 169, 194, 217], 45) := by decide +kernel
theorem dX3_readLine_56 : decode cX3_readLine 56 = .ok (.aload_n 0, 1) := by decide +kernel
theorem dX3_readLine_57 : decode cX3_readLine 57 = .ok (.getfield 50, 3) := by decide +kernel
theorem dX3_readLine_60 : decode cX3_readLine 60 = .ok (.getfield 109, 3) := by decide +kernel
theorem dX3_readLine_63 : decode cX3_readLine 63 = .ok (.bipush 12, 2) := by decide +kernel
theorem dX3_readLine_65 : decode cX3_readLine 65 = .ok (.if_icmp .ge 10, 3) := by decide +kernel
theorem dX3_readLine_68 : decode cX3_readLine 68 = .ok (.aload_n 0, 1) := by decide +kernel
theorem dX3_readLine_69 : decode cX3_readLine 69 = .ok (.invokevirtual 112, 3) := by decide +kernel
theorem dX3_readLine_72 : decode cX3_readLine 72 = .ok (.goto 8, 3) := by decide +kernel
theorem dX3_readLine_75 : decode cX3_readLine 75 = .ok (.aload_n 0, 1) := by decide +kernel
theorem dX3_readLine_76 : decode cX3_readLine 76 = .ok (.iconst 2, 1) := by decide +kernel
theorem dX3_readLine_77 : decode cX3_readLine 77 = .ok (.invokevirtual 116, 3) := by decide +kernel
theorem dX3_readLine_80 : decode cX3_readLine 80 = .ok (.ireturn, 1) := by decide +kernel
theorem dX3_readLine_81 : decode cX3_readLine 81 = .ok (.aload_n 0, 1) := by decide +kernel
theorem dX3_readLine_82 : decode cX3_readLine 82 = .ok (.getfield 50, 3) := by decide +kernel
theorem dX3_readLine_85 : decode cX3_readLine 85 = .ok (.getfield 120, 3) := by decide +kernel
theorem dX3_readLine_88 : decode cX3_readLine 88 = .ok (.bipush 6, 2) := by decide +kernel
theorem dX3_readLine_90 : decode cX3_readLine 90 = .ok (.if_icmp .ge 10, 3) := by decide +kernel
theorem dX3_readLine_93 : decode cX3_readLine 93 = .ok (.aload_n 0, 1) := by decide +kernel
theorem dX3_readLine_94 : decode cX3_readLine 94 = .ok (.invokevirtual 123, 3) := by decide +kernel
theorem dX3_readLine_97 : decode cX3_readLine 97 = .ok (.goto 8, 3) := by decide +kernel
theorem dX3_readLine_100 : decode cX3_readLine 100 = .ok (.aload_n 0, 1) := by decide +kernel
theorem dX3_readLine_101 : decode cX3_readLine 101 = .ok (.iconst 2, 1) := by decide +kernel
theorem dX3_readLine_102 : decode cX3_readLine 102 = .ok (.invokevirtual 116, 3) := by decide +kernel
theorem dX3_readLine_105 : decode cX3_readLine 105 = .ok (.ireturn, 1) := by decide +kernel
theorem dX3_readLine_106 : decode cX3_readLine 106 = .ok (.aload_n 0, 1) := by decide +kernel
theorem dX3_readLine_107 : decode cX3_readLine 107 = .ok (.getfield 50, 3) := by decide +kernel
theorem dX3_readLine_110 : decode cX3_readLine 110 = .ok (.getfield 126, 3) := by decide +kernel
theorem dX3_readLine_113 : decode cX3_readLine 113 = .ok (.bipush 24, 2) := by decide +kernel
theorem dX3_readLine_115 : decode cX3_readLine 115 = .ok (.if_icmp .ge 10, 3) := by decide +kernel
theorem dX3_readLine_118 : decode cX3_readLine 118 = .ok (.aload_n 0, 1) := by decide +kernel
theorem dX3_readLine_119 : decode cX3_readLine 119 = .ok (.invokevirtual 129, 3) := by decide +kernel
theorem dX3_readLine_122 : decode cX3_readLine 122 = .ok (.goto 8, 3) := by decide +kernel
theorem dX3_readLine_125 : decode cX3_readLine 125 = .ok (.aload_n 0, 1) := by decide +kernel
theorem dX3_readLine_126 : decode cX3_readLine 126 = .ok (.iconst 2, 1) := by decide +kernel
theorem dX3_readLine_127 : decode cX3_readLine 127 = .ok (.invokevirtual 116, 3) := by decide +kernel
theorem dX3_readLine_130 : decode cX3_readLine 130 = .ok (.ireturn, 1) := by decide +kernel
theorem dX3_readLine_131 : decode cX3_readLine 131 = .ok (.aload_n 0, 1) := by decide +kernel
theorem dX3_readLine_132 : decode cX3_readLine 132 = .ok (.getfield 50, 3) := by decide +kernel
theorem dX3_readLine_135 : decode cX3_readLine 135 = .ok (.getfield 132, 3) := by decide +kernel
theorem dX3_readLine_138 : decode cX3_readLine 138 = .ok (.iconst 5, 1) := by decide +kernel
theorem dX3_readLine_139 : decode cX3_readLine 139 = .ok (.if_icmp .ge 10, 3) := by decide +kernel
theorem dX3_readLine_142 : decode cX3_readLine 142 = .ok (.aload_n 0, 1) := by decide +kernel
theorem dX3_readLine_143 : decode cX3_readLine 143 = .ok (.invokevirtual 135, 3) := by decide +kernel
theorem dX3_readLine_146 : decode cX3_readLine 146 = .ok (.goto 8, 3) := by decide +kernel
theorem dX3_readLine_149 : decode cX3_readLine 149 = .ok (.aload_n 0, 1) := by decide +kernel
theorem dX3_readLine_150 : decode cX3_readLine 150 = .ok (.iconst 2, 1) := by decide +kernel
theorem dX3_readLine_151 : decode cX3_readLine 151 = .ok (.invokevirtual 116, 3) := by decide +kernel
theorem dX3_readLine_154 : decode cX3_readLine 154 = .ok (.ireturn, 1) := by decide +kernel
theorem dX3_readLine_155 : decode cX3_readLine 155 = .ok (.aload_n 0, 1) := by decide +kernel
theorem dX3_readLine_156 : decode cX3_readLine 156 = .ok (.getfield 50, 3) := by decide +kernel
theorem dX3_readLine_159 : decode cX3_readLine 159 = .ok (.getfield 138, 3) := by decide +kernel
theorem dX3_readLine_162 : decode cX3_readLine 162 = .ok (.bipush 16, 2) := by decide +kernel
theorem dX3_readLine_164 : decode cX3_readLine 164 = .ok (.if_icmp .ge 10, 3) := by decide +kernel
theorem dX3_readLine_167 : decode cX3_readLine 167 = .ok (.aload_n 0, 1) := by decide +kernel
theorem dX3_readLine_168 : decode cX3_readLine 168 = .ok (.invokevirtual 141, 3) := by decide +kernel
theorem dX3_readLine_171 : decode cX3_readLine 171 = .ok (.goto 8, 3) := by decide +kernel
theorem dX3_readLine_174 : decode cX3_readLine 174 = .ok (.aload_n 0, 1) := by decide +kernel
theorem dX3_readLine_175 : decode cX3_readLine 175 = .ok (.iconst 2, 1) := by decide +kernel
theorem dX3_readLine_176 : decode cX3_readLine 176 = .ok (.invokevirtual 116, 3) := by decide +kernel
theorem dX3_readLine_179 : decode cX3_readLine 179 = .ok (.ireturn, 1) := by decide +kernel
theorem dX3_readLine_180 : decode cX3_readLine 180 = .ok (.aload_n 0, 1) := by decide +kernel
theorem dX3_readLine_181 : decode cX3_readLine 181 = .ok (.getfield 50, 3) := by decide +kernel
theorem dX3_readLine_184 : decode cX3_readLine 184 = .ok (.getfield 144, 3) := by decide +kernel
theorem dX3_readLine_187 : decode cX3_readLine 187 = .ok (.bipush 16, 2) := by decide +kernel
theorem dX3_readLine_189 : decode cX3_readLine 189 = .ok (.if_icmp .ge 10, 3) := by decide +kernel
theorem dX3_readLine_192 : decode cX3_readLine 192 = .ok (.aload_n 0, 1) := by decide +kernel
theorem dX3_readLine_193 : decode cX3_readLine 193 = .ok (.invokevirtual 147, 3) := by decide +kernel
theorem dX3_readLine_196 : decode cX3_readLine 196 = .ok (.goto 8, 3) := by decide +kernel
theorem dX3_readLine_199 : decode cX3_readLine 199 = .ok (.aload_n 0, 1) := by decide +kernel
theorem dX3_readLine_200 : decode cX3_readLine 200 = .ok (.iconst 2, 1) := by decide +kernel
theorem dX3_readLine_201 : decode cX3_readLine 201 = .ok (.invokevirtual 116, 3) := by decide +kernel
theorem dX3_readLine_204 : decode cX3_readLine 204 = .ok (.ireturn, 1) := by decide +kernel
theorem dX3_readLine_205 : decode cX3_readLine 205 = .ok (.aload_n 0, 1) := by decide +kernel
theorem dX3_readLine_206 : decode cX3_readLine 206 = .ok (.getfield 50, 3) := by decide +kernel
theorem dX3_readLine_209 : decode cX3_readLine 209 = .ok (.getfield 150, 3) := by decide +kernel
theorem dX3_readLine_212 : decode cX3_readLine 212 = .ok (.ifCond .eq 11, 3) := by decide +kernel
theorem dX3_readLine_215 : decode cX3_readLine 215 = .ok (.aload_n 0, 1) := by decide +kernel
theorem dX3_readLine_216 : decode cX3_readLine 216 = .ok (.iconst 3, 1) := by decide +kernel
theorem dX3_readLine_217 : decode cX3_readLine 217 = .ok (.invokevirtual 116, 3) := by decide +kernel
theorem dX3_readLine_220 : decode cX3_readLine 220 = .ok (.goto 7, 3) := by decide +kernel
theorem dX3_readLine_223 : decode cX3_readLine 223 = .ok (.aload_n 0, 1) := by decide +kernel
theorem dX3_readLine_224 : decode cX3_readLine 224 = .ok (.invokevirtual 154, 3) := by decide +kernel
theorem dX3_readLine_227 : decode cX3_readLine 227 = .ok (.ireturn, 1) := by decide +kernel
theorem dX3_readLine_228 : decode cX3_readLine 228 = .ok (.aload_n 0, 1) := by decide +kernel
theorem dX3_readLine_229 : decode cX3_readLine 229 = .ok (.getfield 50, 3) := by decide +kernel
theorem dX3_readLine_232 : decode cX3_readLine 232 = .ok (.getfield 157, 3) := by decide +kernel
theorem dX3_readLine_235 : decode cX3_readLine 235 = .ok (.bipush 8, 2) := by decide +kernel
theorem dX3_readLine_237 : decode cX3_readLine 237 = .ok (.if_icmp .ge 10, 3) := by decide +kernel
theorem dX3_readLine_240 : decode cX3_readLine 240 = .ok (.aload_n 0, 1) := by decide +kernel
theorem dX3_readLine_241 : decode cX3_readLine 241 = .ok (.invokevirtual 160, 3) := by decide +kernel
theorem dX3_readLine_244 : decode cX3_readLine 244 = .ok (.goto 8, 3) := by decide +kernel
theorem dX3_readLine_247 : decode cX3_readLine 247 = .ok (.aload_n 0, 1) := by decide +kernel
theorem dX3_readLine_248 : decode cX3_readLine 248 = .ok (.iconst 2, 1) := by decide +kernel
theorem dX3_readLine_249 : decode cX3_readLine 249 = .ok (.invokevirtual 116, 3) := by decide +kernel
theorem dX3_readLine_252 : decode cX3_readLine 252 = .ok (.ireturn, 1) := by decide +kernel
theorem dX3_readLine_253 : decode cX3_readLine 253 = .ok (.aload_n 0, 1) := by decide +kernel
theorem dX3_readLine_254 : decode cX3_readLine 254 = .ok (.iconst 1, 1) := by decide +kernel
theorem dX3_readLine_255 : decode cX3_readLine 255 = .ok (.invokevirtual 116, 3) := by decide +kernel
theorem dX3_readLine_258 : decode cX3_readLine 258 = .ok (.ireturn, 1) := by decide +kernel
theorem dX3_takeSemicolon_0 : decode cX3_takeSemicolon 0 = .ok (.aload_n 0, 1) := by decide +kernel
theorem dX3_takeSemicolon_1 : decode cX3_takeSemicolon 1 = .ok (.getfield 24, 3) := by decide +kernel
theorem dX3_takeSemicolon_4 : decode cX3_takeSemicolon 4 = .ok (.getstatic 74, 3) := by decide +kernel
theorem dX3_takeSemicolon_7 : decode cX3_takeSemicolon 7 = .ok (.if_acmp .eq 9, 3) := by decide +kernel
theorem dX3_takeSemicolon_10 : decode cX3_takeSemicolon 10 = .ok (.aload_n 0, 1) := by decide +kernel
theorem dX3_takeSemicolon_11 : decode cX3_takeSemicolon 11 = .ok (.iconst 1, 1) := by decide +kernel
theorem dX3_takeSemicolon_12 : decode cX3_takeSemicolon 12 = .ok (.invokevirtual 116, 3) := by decide +kernel
theorem dX3_takeSemicolon_15 : decode cX3_takeSemicolon 15 = .ok (.ireturn, 1) := by decide +kernel
theorem dX3_takeSemicolon_16 : decode cX3_takeSemicolon 16 = .ok (.aload_n 0, 1) := by decide +kernel
theorem dX3_takeSemicolon_17 : decode cX3_takeSemicolon 17 = .ok (.getfield 50, 3) := by decide +kernel
theorem dX3_takeSemicolon_20 : decode cX3_takeSemicolon 20 = .ok (.dup, 1) := by decide +kernel
theorem dX3_takeSemicolon_21 : decode cX3_takeSemicolon 21 = .ok (.getfield 163, 3) := by decide +kernel
theorem dX3_takeSemicolon_24 : decode cX3_takeSemicolon 24 = .ok (.iconst 1, 1) := by decide +kernel
theorem dX3_takeSemicolon_25 : decode cX3_takeSemicolon 25 = .ok (.iadd, 1) := by decide +kernel
theorem dX3_takeSemicolon_26 : decode cX3_takeSemicolon 26 = .ok (.putfield 163, 3) := by decide +kernel
theorem dX3_takeSemicolon_29 : decode cX3_takeSemicolon 29 = .ok (.aload_n 0, 1) := by decide +kernel
theorem dX3_takeSemicolon_30 : decode cX3_takeSemicolon 30 = .ok (.invokevirtual 65, 3) := by decide +kernel
theorem dX3_takeSemicolon_33 : decode cX3_takeSemicolon 33 = .ok (.iconst 1, 1) := by decide +kernel
theorem dX3_takeSemicolon_34 : decode cX3_takeSemicolon 34 = .ok (.ireturn, 1) := by decide +kernel
theorem dX3_takeNewName_0 : decode cX3_takeNewName 0 = .ok (.aload_n 0, 1) := by decide +kernel
theorem dX3_takeNewName_1 : decode cX3_takeNewName 1 = .ok (.getfield 24, 3) := by decide +kernel
theorem dX3_takeNewName_4 : decode cX3_takeNewName 4 = .ok (.getstatic 82, 3) := by decide +kernel
theorem dX3_takeNewName_7 : decode cX3_takeNewName 7 = .ok (.if_acmp .eq 11, 3) := by decide +kernel
theorem dX3_takeNewName_10 : decode cX3_takeNewName 10 = .ok (.aload_n 0, 1) := by decide +kernel
theorem dX3_takeNewName_11 : decode cX3_takeNewName 11 = .ok (.iconst 1, 1) := by decide +kernel
theorem dX3_takeNewName_12 : decode cX3_takeNewName 12 = .ok (.invokevirtual 116, 3) := by decide +kernel
theorem dX3_takeNewName_15 : decode cX3_takeNewName 15 = .ok (.pop, 1) := by decide +kernel
theorem dX3_takeNewName_16 : decode cX3_takeNewName 16 = .ok (.lconst 0, 1) := by decide +kernel
theorem dX3_takeNewName_17 : decode cX3_takeNewName 17 = .ok (.lreturn, 1) := by decide +kernel
theorem dX3_takeNewName_18 : decode cX3_takeNewName 18 = .ok (.aload_n 0, 1) := by decide +kernel
theorem dX3_takeNewName_19 : decode cX3_takeNewName 19 = .ok (.getfield 50, 3) := by decide +kernel
theorem dX3_takeNewName_22 : decode cX3_takeNewName 22 = .ok (.aload_n 0, 1) := by decide +kernel
theorem dX3_takeNewName_23 : decode cX3_takeNewName 23 = .ok (.getfield 30, 3) := by decide +kernel
theorem dX3_takeNewName_26 : decode cX3_takeNewName 26 = .ok (.invokevirtual 166, 3) := by decide +kernel
theorem dX3_takeNewName_29 : decode cX3_takeNewName 29 = .ok (.ifCond .eq 11, 3) := by decide +kernel
theorem dX3_takeNewName_32 : decode cX3_takeNewName 32 = .ok (.aload_n 0, 1) := by decide +kernel
theorem dX3_takeNewName_33 : decode cX3_takeNewName 33 = .ok (.iconst 3, 1) := by decide +kernel
theorem dX3_takeNewName_34 : decode cX3_takeNewName 34 = .ok (.invokevirtual 116, 3) := by decide +kernel
theorem dX3_takeNewName_37 : decode cX3_takeNewName 37 = .ok (.pop, 1) := by decide +kernel
theorem dX3_takeNewName_38 : decode cX3_takeNewName 38 = .ok (.lconst 0, 1) := by decide +kernel
theorem dX3_takeNewName_39 : decode cX3_takeNewName 39 = .ok (.lreturn, 1) := by decide +kernel
theorem dX3_takeNewName_40 : decode cX3_takeNewName 40 = .ok (.aload_n 0, 1) := by decide +kernel
theorem dX3_takeNewName_41 : decode cX3_takeNewName 41 = .ok (.getfield 30, 3) := by decide +kernel
theorem dX3_takeNewName_44 : decode cX3_takeNewName 44 = .ok (.lstore_n 1, 1) := by decide +kernel
theorem dX3_takeNewName_45 : decode cX3_takeNewName 45 = .ok (.aload_n 0, 1) := by decide +kernel
theorem dX3_takeNewName_46 : decode cX3_takeNewName 46 = .ok (.invokevirtual 65, 3) := by decide +kernel
theorem dX3_takeNewName_49 : decode cX3_takeNewName 49 = .ok (.lload_n 1, 1) := by decide +kernel
theorem dX3_takeNewName_50 : decode cX3_takeNewName 50 = .ok (.lreturn, 1) := by decide +kernel
theorem dX3_takePlace_0 : decode cX3_takePlace 0 = .ok (.aload_n 0, 1) := by decide +kernel
theorem dX3_takePlace_1 : decode cX3_takePlace 1 = .ok (.getfield 24, 3) := by decide +kernel
theorem dX3_takePlace_4 : decode cX3_takePlace 4 = .ok (.getstatic 82, 3) := by decide +kernel
theorem dX3_takePlace_7 : decode cX3_takePlace 7 = .ok (.if_acmp .ne 17, 3) := by decide +kernel
theorem dX3_takePlace_10 : decode cX3_takePlace 10 = .ok (.aload_n 0, 1) := by decide +kernel
theorem dX3_takePlace_11 : decode cX3_takePlace 11 = .ok (.getfield 50, 3) := by decide +kernel
theorem dX3_takePlace_14 : decode cX3_takePlace 14 = .ok (.aload_n 0, 1) := by decide +kernel
theorem dX3_takePlace_15 : decode cX3_takePlace 15 = .ok (.getfield 30, 3) := by decide +kernel
theorem dX3_takePlace_18 : decode cX3_takePlace 18 = .ok (.invokevirtual 170, 3) := by decide +kernel
theorem dX3_takePlace_21 : decode cX3_takePlace 21 = .ok (.goto 4, 3) := by decide +kernel
theorem dX3_takePlace_24 : decode cX3_takePlace 24 = .ok (.iconst (-1), 1) := by decide +kernel
theorem dX3_takePlace_25 : decode cX3_takePlace 25 = .ok (.istore_n 2, 1) := by decide +kernel
theorem dX3_takePlace_26 : decode cX3_takePlace 26 = .ok (.iload_n 2, 1) := by decide +kernel
theorem dX3_takePlace_27 : decode cX3_takePlace 27 = .ok (.iconst (-1), 1) := by decide +kernel
theorem dX3_takePlace_28 : decode cX3_takePlace 28 = .ok (.if_icmp .eq 8, 3) := by decide +kernel
theorem dX3_takePlace_31 : decode cX3_takePlace 31 = .ok (.iload_n 2, 1) := by decide +kernel
theorem dX3_takePlace_32 : decode cX3_takePlace 32 = .ok (.iload_n 1, 1) := by decide +kernel
theorem dX3_takePlace_33 : decode cX3_takePlace 33 = .ok (.if_icmp .ne 11, 3) := by decide +kernel
theorem dX3_takePlace_36 : decode cX3_takePlace 36 = .ok (.aload_n 0, 1) := by decide +kernel
theorem dX3_takePlace_37 : decode cX3_takePlace 37 = .ok (.iconst 1, 1) := by decide +kernel
theorem dX3_takePlace_38 : decode cX3_takePlace 38 = .ok (.invokevirtual 116, 3) := by decide +kernel
theorem dX3_takePlace_41 : decode cX3_takePlace 41 = .ok (.pop, 1) := by decide +kernel
theorem dX3_takePlace_42 : decode cX3_takePlace 42 = .ok (.iconst (-1), 1) := by decide +kernel
theorem dX3_takePlace_43 : decode cX3_takePlace 43 = .ok (.ireturn, 1) := by decide +kernel
theorem dX3_takePlace_44 : decode cX3_takePlace 44 = .ok (.aload_n 0, 1) := by decide +kernel
theorem dX3_takePlace_45 : decode cX3_takePlace 45 = .ok (.invokevirtual 65, 3) := by decide +kernel
theorem dX3_takePlace_48 : decode cX3_takePlace 48 = .ok (.iload_n 2, 1) := by decide +kernel
theorem dX3_takePlace_49 : decode cX3_takePlace 49 = .ok (.ireturn, 1) := by decide +kernel
theorem dX3_takeCarrier_0 : decode cX3_takeCarrier 0 = .ok (.aload_n 0, 1) := by decide +kernel
theorem dX3_takeCarrier_1 : decode cX3_takeCarrier 1 = .ok (.getfield 24, 3) := by decide +kernel
theorem dX3_takeCarrier_4 : decode cX3_takeCarrier 4 = .ok (.getstatic 82, 3) := by decide +kernel
theorem dX3_takeCarrier_7 : decode cX3_takeCarrier 7 = .ok (.if_acmp .ne 17, 3) := by decide +kernel
theorem dX3_takeCarrier_10 : decode cX3_takeCarrier 10 = .ok (.aload_n 0, 1) := by decide +kernel
theorem dX3_takeCarrier_11 : decode cX3_takeCarrier 11 = .ok (.getfield 50, 3) := by decide +kernel
theorem dX3_takeCarrier_14 : decode cX3_takeCarrier 14 = .ok (.aload_n 0, 1) := by decide +kernel
theorem dX3_takeCarrier_15 : decode cX3_takeCarrier 15 = .ok (.getfield 30, 3) := by decide +kernel
theorem dX3_takeCarrier_18 : decode cX3_takeCarrier 18 = .ok (.invokevirtual 174, 3) := by decide +kernel
theorem dX3_takeCarrier_21 : decode cX3_takeCarrier 21 = .ok (.goto 4, 3) := by decide +kernel
theorem dX3_takeCarrier_24 : decode cX3_takeCarrier 24 = .ok (.iconst (-1), 1) := by decide +kernel
theorem dX3_takeCarrier_25 : decode cX3_takeCarrier 25 = .ok (.istore_n 2, 1) := by decide +kernel
theorem dX3_takeCarrier_26 : decode cX3_takeCarrier 26 = .ok (.iload_n 2, 1) := by decide +kernel
theorem dX3_takeCarrier_27 : decode cX3_takeCarrier 27 = .ok (.iconst (-1), 1) := by decide +kernel
theorem dX3_takeCarrier_28 : decode cX3_takeCarrier 28 = .ok (.if_icmp .eq 8, 3) := by decide +kernel
theorem dX3_takeCarrier_31 : decode cX3_takeCarrier 31 = .ok (.iload_n 2, 1) := by decide +kernel
theorem dX3_takeCarrier_32 : decode cX3_takeCarrier 32 = .ok (.iload_n 1, 1) := by decide +kernel
theorem dX3_takeCarrier_33 : decode cX3_takeCarrier 33 = .ok (.if_icmp .ne 11, 3) := by decide +kernel
theorem dX3_takeCarrier_36 : decode cX3_takeCarrier 36 = .ok (.aload_n 0, 1) := by decide +kernel
theorem dX3_takeCarrier_37 : decode cX3_takeCarrier 37 = .ok (.iconst 1, 1) := by decide +kernel
theorem dX3_takeCarrier_38 : decode cX3_takeCarrier 38 = .ok (.invokevirtual 116, 3) := by decide +kernel
theorem dX3_takeCarrier_41 : decode cX3_takeCarrier 41 = .ok (.pop, 1) := by decide +kernel
theorem dX3_takeCarrier_42 : decode cX3_takeCarrier 42 = .ok (.iconst (-1), 1) := by decide +kernel
theorem dX3_takeCarrier_43 : decode cX3_takeCarrier 43 = .ok (.ireturn, 1) := by decide +kernel
theorem dX3_takeCarrier_44 : decode cX3_takeCarrier 44 = .ok (.aload_n 0, 1) := by decide +kernel
theorem dX3_takeCarrier_45 : decode cX3_takeCarrier 45 = .ok (.invokevirtual 65, 3) := by decide +kernel
theorem dX3_takeCarrier_48 : decode cX3_takeCarrier 48 = .ok (.iload_n 2, 1) := by decide +kernel
theorem dX3_takeCarrier_49 : decode cX3_takeCarrier 49 = .ok (.ireturn, 1) := by decide +kernel
theorem dX3_takeNumber_0 : decode cX3_takeNumber 0 = .ok (.aload_n 0, 1) := by decide +kernel
theorem dX3_takeNumber_1 : decode cX3_takeNumber 1 = .ok (.getfield 24, 3) := by decide +kernel
theorem dX3_takeNumber_4 : decode cX3_takeNumber 4 = .ok (.getstatic 92, 3) := by decide +kernel
theorem dX3_takeNumber_7 : decode cX3_takeNumber 7 = .ok (.if_acmp .eq 11, 3) := by decide +kernel
theorem dX3_takeNumber_10 : decode cX3_takeNumber 10 = .ok (.aload_n 0, 1) := by decide +kernel
theorem dX3_takeNumber_11 : decode cX3_takeNumber 11 = .ok (.iconst 1, 1) := by decide +kernel
theorem dX3_takeNumber_12 : decode cX3_takeNumber 12 = .ok (.invokevirtual 116, 3) := by decide +kernel
theorem dX3_takeNumber_15 : decode cX3_takeNumber 15 = .ok (.pop, 1) := by decide +kernel
theorem dX3_takeNumber_16 : decode cX3_takeNumber 16 = .ok (.iconst (-1), 1) := by decide +kernel
theorem dX3_takeNumber_17 : decode cX3_takeNumber 17 = .ok (.ireturn, 1) := by decide +kernel
theorem dX3_takeNumber_18 : decode cX3_takeNumber 18 = .ok (.aload_n 0, 1) := by decide +kernel
theorem dX3_takeNumber_19 : decode cX3_takeNumber 19 = .ok (.getfield 34, 3) := by decide +kernel
theorem dX3_takeNumber_22 : decode cX3_takeNumber 22 = .ok (.iload_n 1, 1) := by decide +kernel
theorem dX3_takeNumber_23 : decode cX3_takeNumber 23 = .ok (.if_icmp .lt 11, 3) := by decide +kernel
theorem dX3_takeNumber_26 : decode cX3_takeNumber 26 = .ok (.aload_n 0, 1) := by decide +kernel
theorem dX3_takeNumber_27 : decode cX3_takeNumber 27 = .ok (.getfield 34, 3) := by decide +kernel
theorem dX3_takeNumber_30 : decode cX3_takeNumber 30 = .ok (.iload_n 2, 1) := by decide +kernel
theorem dX3_takeNumber_31 : decode cX3_takeNumber 31 = .ok (.if_icmp .le 11, 3) := by decide +kernel
theorem dX3_takeNumber_34 : decode cX3_takeNumber 34 = .ok (.aload_n 0, 1) := by decide +kernel
theorem dX3_takeNumber_35 : decode cX3_takeNumber 35 = .ok (.iconst 2, 1) := by decide +kernel
theorem dX3_takeNumber_36 : decode cX3_takeNumber 36 = .ok (.invokevirtual 116, 3) := by decide +kernel
theorem dX3_takeNumber_39 : decode cX3_takeNumber 39 = .ok (.pop, 1) := by decide +kernel
theorem dX3_takeNumber_40 : decode cX3_takeNumber 40 = .ok (.iconst (-1), 1) := by decide +kernel
theorem dX3_takeNumber_41 : decode cX3_takeNumber 41 = .ok (.ireturn, 1) := by decide +kernel
theorem dX3_takeNumber_42 : decode cX3_takeNumber 42 = .ok (.aload_n 0, 1) := by decide +kernel
theorem dX3_takeNumber_43 : decode cX3_takeNumber 43 = .ok (.getfield 34, 3) := by decide +kernel
theorem dX3_takeNumber_46 : decode cX3_takeNumber 46 = .ok (.istore_n 3, 1) := by decide +kernel
theorem dX3_takeNumber_47 : decode cX3_takeNumber 47 = .ok (.aload_n 0, 1) := by decide +kernel
theorem dX3_takeNumber_48 : decode cX3_takeNumber 48 = .ok (.invokevirtual 65, 3) := by decide +kernel
theorem dX3_takeNumber_51 : decode cX3_takeNumber 51 = .ok (.iload_n 3, 1) := by decide +kernel
theorem dX3_takeNumber_52 : decode cX3_takeNumber 52 = .ok (.ireturn, 1) := by decide +kernel
theorem dX3_takeKind_0 : decode cX3_takeKind 0 = .ok (.aload_n 0, 1) := by decide +kernel
theorem dX3_takeKind_1 : decode cX3_takeKind 1 = .ok (.getfield 24, 3) := by decide +kernel
theorem dX3_takeKind_4 : decode cX3_takeKind 4 = .ok (.invokestatic 177, 3) := by decide +kernel
theorem dX3_takeKind_7 : decode cX3_takeKind 7 = .ok (.istore_n 1, 1) := by decide +kernel
theorem dX3_takeKind_8 : decode cX3_takeKind 8 = .ok (.iload_n 1, 1) := by decide +kernel
theorem dX3_takeKind_9 : decode cX3_takeKind 9 = .ok (.iconst (-1), 1) := by decide +kernel
theorem dX3_takeKind_10 : decode cX3_takeKind 10 = .ok (.if_icmp .ne 12, 3) := by decide +kernel
theorem dX3_takeKind_13 : decode cX3_takeKind 13 = .ok (.aload_n 0, 1) := by decide +kernel
theorem dX3_takeKind_14 : decode cX3_takeKind 14 = .ok (.iconst 1, 1) := by decide +kernel
theorem dX3_takeKind_15 : decode cX3_takeKind 15 = .ok (.invokevirtual 116, 3) := by decide +kernel
theorem dX3_takeKind_18 : decode cX3_takeKind 18 = .ok (.pop, 1) := by decide +kernel
theorem dX3_takeKind_19 : decode cX3_takeKind 19 = .ok (.goto 7, 3) := by decide +kernel
theorem dX3_takeKind_22 : decode cX3_takeKind 22 = .ok (.aload_n 0, 1) := by decide +kernel
theorem dX3_takeKind_23 : decode cX3_takeKind 23 = .ok (.invokevirtual 65, 3) := by decide +kernel
theorem dX3_takeKind_26 : decode cX3_takeKind 26 = .ok (.iload_n 1, 1) := by decide +kernel
theorem dX3_takeKind_27 : decode cX3_takeKind 27 = .ok (.ireturn, 1) := by decide +kernel
theorem dX3_kindOf_0 : decode cX3_kindOf 0 = .ok (.getstatic 100, 3) := by decide +kernel
theorem dX3_kindOf_3 : decode cX3_kindOf 3 = .ok (.aload_n 0, 1) := by decide +kernel
theorem dX3_kindOf_4 : decode cX3_kindOf 4 = .ok (.invokevirtual 105, 3) := by decide +kernel
theorem dX3_kindOf_7 : decode cX3_kindOf 7 = .ok (.iaload, 1) := by decide +kernel
theorem dX3_kindOf_8 : decode cX3_kindOf 8 = .ok (.tableswitch 40 9 12 #[32, 34, 36, 38], 32) := by decide +kernel
theorem dX3_kindOf_40 : decode cX3_kindOf 40 = .ok (.iconst 1, 1) := by decide +kernel
theorem dX3_kindOf_41 : decode cX3_kindOf 41 = .ok (.ireturn, 1) := by decide +kernel
theorem dX3_kindOf_42 : decode cX3_kindOf 42 = .ok (.iconst 2, 1) := by decide +kernel
theorem dX3_kindOf_43 : decode cX3_kindOf 43 = .ok (.ireturn, 1) := by decide +kernel
theorem dX3_kindOf_44 : decode cX3_kindOf 44 = .ok (.iconst 3, 1) := by decide +kernel
theorem dX3_kindOf_45 : decode cX3_kindOf 45 = .ok (.ireturn, 1) := by decide +kernel
theorem dX3_kindOf_46 : decode cX3_kindOf 46 = .ok (.iconst 4, 1) := by decide +kernel
theorem dX3_kindOf_47 : decode cX3_kindOf 47 = .ok (.ireturn, 1) := by decide +kernel
theorem dX3_kindOf_48 : decode cX3_kindOf 48 = .ok (.iconst (-1), 1) := by decide +kernel
theorem dX3_kindOf_49 : decode cX3_kindOf 49 = .ok (.ireturn, 1) := by decide +kernel
theorem dX3_takeHow_0 : decode cX3_takeHow 0 = .ok (.aload_n 0, 1) := by decide +kernel
theorem dX3_takeHow_1 : decode cX3_takeHow 1 = .ok (.getfield 24, 3) := by decide +kernel
theorem dX3_takeHow_4 : decode cX3_takeHow 4 = .ok (.getstatic 181, 3) := by decide +kernel
theorem dX3_takeHow_7 : decode cX3_takeHow 7 = .ok (.if_acmp .eq 21, 3) := by decide +kernel
theorem dX3_takeHow_10 : decode cX3_takeHow 10 = .ok (.aload_n 0, 1) := by decide +kernel
theorem dX3_takeHow_11 : decode cX3_takeHow 11 = .ok (.getfield 24, 3) := by decide +kernel
theorem dX3_takeHow_14 : decode cX3_takeHow 14 = .ok (.getstatic 184, 3) := by decide +kernel
theorem dX3_takeHow_17 : decode cX3_takeHow 17 = .ok (.if_acmp .eq 11, 3) := by decide +kernel
theorem dX3_takeHow_20 : decode cX3_takeHow 20 = .ok (.aload_n 0, 1) := by decide +kernel
theorem dX3_takeHow_21 : decode cX3_takeHow 21 = .ok (.iconst 1, 1) := by decide +kernel
theorem dX3_takeHow_22 : decode cX3_takeHow 22 = .ok (.invokevirtual 116, 3) := by decide +kernel
theorem dX3_takeHow_25 : decode cX3_takeHow 25 = .ok (.pop, 1) := by decide +kernel
theorem dX3_takeHow_26 : decode cX3_takeHow 26 = .ok (.iconst (-1), 1) := by decide +kernel
theorem dX3_takeHow_27 : decode cX3_takeHow 27 = .ok (.ireturn, 1) := by decide +kernel
theorem dX3_takeHow_28 : decode cX3_takeHow 28 = .ok (.aload_n 0, 1) := by decide +kernel
theorem dX3_takeHow_29 : decode cX3_takeHow 29 = .ok (.getfield 24, 3) := by decide +kernel
theorem dX3_takeHow_32 : decode cX3_takeHow 32 = .ok (.getstatic 181, 3) := by decide +kernel
theorem dX3_takeHow_35 : decode cX3_takeHow 35 = .ok (.if_acmp .ne 7, 3) := by decide +kernel
theorem dX3_takeHow_38 : decode cX3_takeHow 38 = .ok (.iconst 0, 1) := by decide +kernel
theorem dX3_takeHow_39 : decode cX3_takeHow 39 = .ok (.goto 4, 3) := by decide +kernel
theorem dX3_takeHow_42 : decode cX3_takeHow 42 = .ok (.iconst 1, 1) := by decide +kernel
theorem dX3_takeHow_43 : decode cX3_takeHow 43 = .ok (.istore_n 1, 1) := by decide +kernel
theorem dX3_takeHow_44 : decode cX3_takeHow 44 = .ok (.aload_n 0, 1) := by decide +kernel
theorem dX3_takeHow_45 : decode cX3_takeHow 45 = .ok (.invokevirtual 65, 3) := by decide +kernel
theorem dX3_takeHow_48 : decode cX3_takeHow 48 = .ok (.iload_n 1, 1) := by decide +kernel
theorem dX3_takeHow_49 : decode cX3_takeHow 49 = .ok (.ireturn, 1) := by decide +kernel
theorem dX3_readPlace_0 : decode cX3_readPlace 0 = .ok (.aload_n 0, 1) := by decide +kernel
theorem dX3_readPlace_1 : decode cX3_readPlace 1 = .ok (.invokevirtual 65, 3) := by decide +kernel
theorem dX3_readPlace_4 : decode cX3_readPlace 4 = .ok (.aload_n 0, 1) := by decide +kernel
theorem dX3_readPlace_5 : decode cX3_readPlace 5 = .ok (.invokevirtual 187, 3) := by decide +kernel
theorem dX3_readPlace_8 : decode cX3_readPlace 8 = .ok (.lstore_n 1, 1) := by decide +kernel
theorem dX3_readPlace_9 : decode cX3_readPlace 9 = .ok (.lload_n 1, 1) := by decide +kernel
theorem dX3_readPlace_10 : decode cX3_readPlace 10 = .ok (.lconst 0, 1) := by decide +kernel
theorem dX3_readPlace_11 : decode cX3_readPlace 11 = .ok (.lcmp, 1) := by decide +kernel
theorem dX3_readPlace_12 : decode cX3_readPlace 12 = .ok (.ifCond .ne 5, 3) := by decide +kernel
theorem dX3_readPlace_15 : decode cX3_readPlace 15 = .ok (.iconst 0, 1) := by decide +kernel
theorem dX3_readPlace_16 : decode cX3_readPlace 16 = .ok (.ireturn, 1) := by decide +kernel
theorem dX3_readPlace_17 : decode cX3_readPlace 17 = .ok (.aload_n 0, 1) := by decide +kernel
theorem dX3_readPlace_18 : decode cX3_readPlace 18 = .ok (.getfield 50, 3) := by decide +kernel
theorem dX3_readPlace_21 : decode cX3_readPlace 21 = .ok (.lload_n 1, 1) := by decide +kernel
theorem dX3_readPlace_22 : decode cX3_readPlace 22 = .ok (.invokevirtual 191, 3) := by decide +kernel
theorem dX3_readPlace_25 : decode cX3_readPlace 25 = .ok (.aload_n 0, 1) := by decide +kernel
theorem dX3_readPlace_26 : decode cX3_readPlace 26 = .ok (.invokevirtual 195, 3) := by decide +kernel
theorem dX3_readPlace_29 : decode cX3_readPlace 29 = .ok (.ireturn, 1) := by decide +kernel
theorem dX3_readCarrier_0 : decode cX3_readCarrier 0 = .ok (.aload_n 0, 1) := by decide +kernel
theorem dX3_readCarrier_1 : decode cX3_readCarrier 1 = .ok (.invokevirtual 65, 3) := by decide +kernel
theorem dX3_readCarrier_4 : decode cX3_readCarrier 4 = .ok (.aload_n 0, 1) := by decide +kernel
theorem dX3_readCarrier_5 : decode cX3_readCarrier 5 = .ok (.invokevirtual 187, 3) := by decide +kernel
theorem dX3_readCarrier_8 : decode cX3_readCarrier 8 = .ok (.lstore_n 1, 1) := by decide +kernel
theorem dX3_readCarrier_9 : decode cX3_readCarrier 9 = .ok (.lload_n 1, 1) := by decide +kernel
theorem dX3_readCarrier_10 : decode cX3_readCarrier 10 = .ok (.lconst 0, 1) := by decide +kernel
theorem dX3_readCarrier_11 : decode cX3_readCarrier 11 = .ok (.lcmp, 1) := by decide +kernel
theorem dX3_readCarrier_12 : decode cX3_readCarrier 12 = .ok (.ifCond .ne 5, 3) := by decide +kernel
theorem dX3_readCarrier_15 : decode cX3_readCarrier 15 = .ok (.iconst 0, 1) := by decide +kernel
theorem dX3_readCarrier_16 : decode cX3_readCarrier 16 = .ok (.ireturn, 1) := by decide +kernel
theorem dX3_readCarrier_17 : decode cX3_readCarrier 17 = .ok (.aload_n 0, 1) := by decide +kernel
theorem dX3_readCarrier_18 : decode cX3_readCarrier 18 = .ok (.getfield 50, 3) := by decide +kernel
theorem dX3_readCarrier_21 : decode cX3_readCarrier 21 = .ok (.lload_n 1, 1) := by decide +kernel
theorem dX3_readCarrier_22 : decode cX3_readCarrier 22 = .ok (.invokevirtual 198, 3) := by decide +kernel
theorem dX3_readCarrier_25 : decode cX3_readCarrier 25 = .ok (.aload_n 0, 1) := by decide +kernel
theorem dX3_readCarrier_26 : decode cX3_readCarrier 26 = .ok (.invokevirtual 195, 3) := by decide +kernel
theorem dX3_readCarrier_29 : decode cX3_readCarrier 29 = .ok (.ireturn, 1) := by decide +kernel
theorem dX3_readLeg_0 : decode cX3_readLeg 0 = .ok (.aload_n 0, 1) := by decide +kernel
theorem dX3_readLeg_1 : decode cX3_readLeg 1 = .ok (.invokevirtual 65, 3) := by decide +kernel
theorem dX3_readLeg_4 : decode cX3_readLeg 4 = .ok (.aload_n 0, 1) := by decide +kernel
theorem dX3_readLeg_5 : decode cX3_readLeg 5 = .ok (.iconst (-1), 1) := by decide +kernel
theorem dX3_readLeg_6 : decode cX3_readLeg 6 = .ok (.invokevirtual 201, 3) := by decide +kernel
theorem dX3_readLeg_9 : decode cX3_readLeg 9 = .ok (.istore_n 1, 1) := by decide +kernel
theorem dX3_readLeg_10 : decode cX3_readLeg 10 = .ok (.iload_n 1, 1) := by decide +kernel
theorem dX3_readLeg_11 : decode cX3_readLeg 11 = .ok (.iconst (-1), 1) := by decide +kernel
theorem dX3_readLeg_12 : decode cX3_readLeg 12 = .ok (.if_icmp .ne 5, 3) := by decide +kernel
theorem dX3_readLeg_15 : decode cX3_readLeg 15 = .ok (.iconst 0, 1) := by decide +kernel
theorem dX3_readLeg_16 : decode cX3_readLeg 16 = .ok (.ireturn, 1) := by decide +kernel
theorem dX3_readLeg_17 : decode cX3_readLeg 17 = .ok (.aload_n 0, 1) := by decide +kernel
theorem dX3_readLeg_18 : decode cX3_readLeg 18 = .ok (.iload_n 1, 1) := by decide +kernel
theorem dX3_readLeg_19 : decode cX3_readLeg 19 = .ok (.invokevirtual 201, 3) := by decide +kernel
theorem dX3_readLeg_22 : decode cX3_readLeg 22 = .ok (.istore_n 2, 1) := by decide +kernel
theorem dX3_readLeg_23 : decode cX3_readLeg 23 = .ok (.iload_n 2, 1) := by decide +kernel
theorem dX3_readLeg_24 : decode cX3_readLeg 24 = .ok (.iconst (-1), 1) := by decide +kernel
theorem dX3_readLeg_25 : decode cX3_readLeg 25 = .ok (.if_icmp .ne 5, 3) := by decide +kernel
theorem dX3_readLeg_28 : decode cX3_readLeg 28 = .ok (.iconst 0, 1) := by decide +kernel
theorem dX3_readLeg_29 : decode cX3_readLeg 29 = .ok (.ireturn, 1) := by decide +kernel
theorem dX3_readLeg_30 : decode cX3_readLeg 30 = .ok (.aload_n 0, 1) := by decide +kernel
theorem dX3_readLeg_31 : decode cX3_readLeg 31 = .ok (.getfield 50, 3) := by decide +kernel
theorem dX3_readLeg_34 : decode cX3_readLeg 34 = .ok (.getfield 205, 3) := by decide +kernel
theorem dX3_readLeg_37 : decode cX3_readLeg 37 = .ok (.iload_n 1, 1) := by decide +kernel
theorem dX3_readLeg_38 : decode cX3_readLeg 38 = .ok (.aaload, 1) := by decide +kernel
theorem dX3_readLeg_39 : decode cX3_readLeg 39 = .ok (.iload_n 2, 1) := by decide +kernel
theorem dX3_readLeg_40 : decode cX3_readLeg 40 = .ok (.iaload, 1) := by decide +kernel
theorem dX3_readLeg_41 : decode cX3_readLeg 41 = .ok (.ifCond .eq 9, 3) := by decide +kernel
theorem dX3_readLeg_44 : decode cX3_readLeg 44 = .ok (.aload_n 0, 1) := by decide +kernel
theorem dX3_readLeg_45 : decode cX3_readLeg 45 = .ok (.iconst 3, 1) := by decide +kernel
theorem dX3_readLeg_46 : decode cX3_readLeg 46 = .ok (.invokevirtual 209, 3) := by decide +kernel
theorem dX3_readLeg_49 : decode cX3_readLeg 49 = .ok (.ireturn, 1) := by decide +kernel
theorem dX3_readLeg_50 : decode cX3_readLeg 50 = .ok (.aload_n 0, 1) := by decide +kernel
theorem dX3_readLeg_51 : decode cX3_readLeg 51 = .ok (.iconst 1, 1) := by decide +kernel
theorem dX3_readLeg_52 : decode cX3_readLeg 52 = .ok (.sipush 9999, 3) := by decide +kernel
theorem dX3_readLeg_55 : decode cX3_readLeg 55 = .ok (.invokevirtual 212, 3) := by decide +kernel
theorem dX3_readLeg_58 : decode cX3_readLeg 58 = .ok (.istore_n 3, 1) := by decide +kernel
theorem dX3_readLeg_59 : decode cX3_readLeg 59 = .ok (.iload_n 3, 1) := by decide +kernel
theorem dX3_readLeg_60 : decode cX3_readLeg 60 = .ok (.iconst (-1), 1) := by decide +kernel
theorem dX3_readLeg_61 : decode cX3_readLeg 61 = .ok (.if_icmp .ne 5, 3) := by decide +kernel
theorem dX3_readLeg_64 : decode cX3_readLeg 64 = .ok (.iconst 0, 1) := by decide +kernel
theorem dX3_readLeg_65 : decode cX3_readLeg 65 = .ok (.ireturn, 1) := by decide +kernel
theorem dX3_readLeg_66 : decode cX3_readLeg 66 = .ok (.aload_n 0, 1) := by decide +kernel
theorem dX3_readLeg_67 : decode cX3_readLeg 67 = .ok (.getfield 50, 3) := by decide +kernel
theorem dX3_readLeg_70 : decode cX3_readLeg 70 = .ok (.iload_n 1, 1) := by decide +kernel
theorem dX3_readLeg_71 : decode cX3_readLeg 71 = .ok (.iload_n 2, 1) := by decide +kernel
theorem dX3_readLeg_72 : decode cX3_readLeg 72 = .ok (.iload_n 3, 1) := by decide +kernel
theorem dX3_readLeg_73 : decode cX3_readLeg 73 = .ok (.invokevirtual 215, 3) := by decide +kernel
theorem dX3_readLeg_76 : decode cX3_readLeg 76 = .ok (.aload_n 0, 1) := by decide +kernel
theorem dX3_readLeg_77 : decode cX3_readLeg 77 = .ok (.invokevirtual 195, 3) := by decide +kernel
theorem dX3_readLeg_80 : decode cX3_readLeg 80 = .ok (.ireturn, 1) := by decide +kernel
theorem dX3_readBand_0 : decode cX3_readBand 0 = .ok (.aload_n 0, 1) := by decide +kernel
theorem dX3_readBand_1 : decode cX3_readBand 1 = .ok (.invokevirtual 65, 3) := by decide +kernel
theorem dX3_readBand_4 : decode cX3_readBand 4 = .ok (.aload_n 0, 1) := by decide +kernel
theorem dX3_readBand_5 : decode cX3_readBand 5 = .ok (.aload_n 0, 1) := by decide +kernel
theorem dX3_readBand_6 : decode cX3_readBand 6 = .ok (.getfield 50, 3) := by decide +kernel
theorem dX3_readBand_9 : decode cX3_readBand 9 = .ok (.invokevirtual 219, 3) := by decide +kernel
theorem dX3_readBand_12 : decode cX3_readBand 12 = .ok (.iconst 1, 1) := by decide +kernel
theorem dX3_readBand_13 : decode cX3_readBand 13 = .ok (.iadd, 1) := by decide +kernel
theorem dX3_readBand_14 : decode cX3_readBand 14 = .ok (.sipush 9999, 3) := by decide +kernel
theorem dX3_readBand_17 : decode cX3_readBand 17 = .ok (.invokevirtual 212, 3) := by decide +kernel
theorem dX3_readBand_20 : decode cX3_readBand 20 = .ok (.istore_n 1, 1) := by decide +kernel
theorem dX3_readBand_21 : decode cX3_readBand 21 = .ok (.iload_n 1, 1) := by decide +kernel
theorem dX3_readBand_22 : decode cX3_readBand 22 = .ok (.iconst (-1), 1) := by decide +kernel
theorem dX3_readBand_23 : decode cX3_readBand 23 = .ok (.if_icmp .ne 5, 3) := by decide +kernel
theorem dX3_readBand_26 : decode cX3_readBand 26 = .ok (.iconst 0, 1) := by decide +kernel
theorem dX3_readBand_27 : decode cX3_readBand 27 = .ok (.ireturn, 1) := by decide +kernel
theorem dX3_readBand_28 : decode cX3_readBand 28 = .ok (.aload_n 0, 1) := by decide +kernel
theorem dX3_readBand_29 : decode cX3_readBand 29 = .ok (.iconst 1, 1) := by decide +kernel
theorem dX3_readBand_30 : decode cX3_readBand 30 = .ok (.sipush 999, 3) := by decide +kernel
theorem dX3_readBand_33 : decode cX3_readBand 33 = .ok (.invokevirtual 212, 3) := by decide +kernel
theorem dX3_readBand_36 : decode cX3_readBand 36 = .ok (.istore_n 2, 1) := by decide +kernel
theorem dX3_readBand_37 : decode cX3_readBand 37 = .ok (.iload_n 2, 1) := by decide +kernel
theorem dX3_readBand_38 : decode cX3_readBand 38 = .ok (.iconst (-1), 1) := by decide +kernel
theorem dX3_readBand_39 : decode cX3_readBand 39 = .ok (.if_icmp .ne 5, 3) := by decide +kernel
theorem dX3_readBand_42 : decode cX3_readBand 42 = .ok (.iconst 0, 1) := by decide +kernel
theorem dX3_readBand_43 : decode cX3_readBand 43 = .ok (.ireturn, 1) := by decide +kernel
theorem dX3_readBand_44 : decode cX3_readBand 44 = .ok (.aload_n 0, 1) := by decide +kernel
theorem dX3_readBand_45 : decode cX3_readBand 45 = .ok (.getfield 50, 3) := by decide +kernel
theorem dX3_readBand_48 : decode cX3_readBand 48 = .ok (.iload_n 1, 1) := by decide +kernel
theorem dX3_readBand_49 : decode cX3_readBand 49 = .ok (.iload_n 2, 1) := by decide +kernel
theorem dX3_readBand_50 : decode cX3_readBand 50 = .ok (.invokevirtual 222, 3) := by decide +kernel
theorem dX3_readBand_53 : decode cX3_readBand 53 = .ok (.aload_n 0, 1) := by decide +kernel
theorem dX3_readBand_54 : decode cX3_readBand 54 = .ok (.invokevirtual 195, 3) := by decide +kernel
theorem dX3_readBand_57 : decode cX3_readBand 57 = .ok (.ireturn, 1) := by decide +kernel
theorem dX3_readProviso_0 : decode cX3_readProviso 0 = .ok (.aload_n 0, 1) := by decide +kernel
theorem dX3_readProviso_1 : decode cX3_readProviso 1 = .ok (.invokevirtual 65, 3) := by decide +kernel
theorem dX3_readProviso_4 : decode cX3_readProviso 4 = .ok (.aload_n 0, 1) := by decide +kernel
theorem dX3_readProviso_5 : decode cX3_readProviso 5 = .ok (.iconst (-1), 1) := by decide +kernel
theorem dX3_readProviso_6 : decode cX3_readProviso 6 = .ok (.invokevirtual 226, 3) := by decide +kernel
theorem dX3_readProviso_9 : decode cX3_readProviso 9 = .ok (.istore_n 1, 1) := by decide +kernel
theorem dX3_readProviso_10 : decode cX3_readProviso 10 = .ok (.iload_n 1, 1) := by decide +kernel
theorem dX3_readProviso_11 : decode cX3_readProviso 11 = .ok (.iconst (-1), 1) := by decide +kernel
theorem dX3_readProviso_12 : decode cX3_readProviso 12 = .ok (.if_icmp .ne 5, 3) := by decide +kernel
theorem dX3_readProviso_15 : decode cX3_readProviso 15 = .ok (.iconst 0, 1) := by decide +kernel
theorem dX3_readProviso_16 : decode cX3_readProviso 16 = .ok (.ireturn, 1) := by decide +kernel
theorem dX3_readProviso_17 : decode cX3_readProviso 17 = .ok (.bipush (-2), 2) := by decide +kernel
theorem dX3_readProviso_19 : decode cX3_readProviso 19 = .ok (.istore_n 2, 1) := by decide +kernel
theorem dX3_readProviso_20 : decode cX3_readProviso 20 = .ok (.bipush (-2), 2) := by decide +kernel
theorem dX3_readProviso_22 : decode cX3_readProviso 22 = .ok (.istore_n 3, 1) := by decide +kernel
theorem dX3_readProviso_23 : decode cX3_readProviso 23 = .ok (.aload_n 0, 1) := by decide +kernel
theorem dX3_readProviso_24 : decode cX3_readProviso 24 = .ok (.getfield 24, 3) := by decide +kernel
theorem dX3_readProviso_27 : decode cX3_readProviso 27 = .ok (.getstatic 229, 3) := by decide +kernel
theorem dX3_readProviso_30 : decode cX3_readProviso 30 = .ok (.if_acmp .ne 10, 3) := by decide +kernel
theorem dX3_readProviso_33 : decode cX3_readProviso 33 = .ok (.aload_n 0, 1) := by decide +kernel
theorem dX3_readProviso_34 : decode cX3_readProviso 34 = .ok (.invokevirtual 65, 3) := by decide +kernel
theorem dX3_readProviso_37 : decode cX3_readProviso 37 = .ok (.goto 31, 3) := by decide +kernel
theorem dX3_readProviso_40 : decode cX3_readProviso 40 = .ok (.aload_n 0, 1) := by decide +kernel
theorem dX3_readProviso_41 : decode cX3_readProviso 41 = .ok (.iconst (-1), 1) := by decide +kernel
theorem dX3_readProviso_42 : decode cX3_readProviso 42 = .ok (.invokevirtual 201, 3) := by decide +kernel
theorem dX3_readProviso_45 : decode cX3_readProviso 45 = .ok (.istore_n 2, 1) := by decide +kernel
theorem dX3_readProviso_46 : decode cX3_readProviso 46 = .ok (.iload_n 2, 1) := by decide +kernel
theorem dX3_readProviso_47 : decode cX3_readProviso 47 = .ok (.iconst (-1), 1) := by decide +kernel
theorem dX3_readProviso_48 : decode cX3_readProviso 48 = .ok (.if_icmp .ne 7, 3) := by decide +kernel
theorem dX3_readProviso_51 : decode cX3_readProviso 51 = .ok (.iconst (-1), 1) := by decide +kernel
theorem dX3_readProviso_52 : decode cX3_readProviso 52 = .ok (.goto 8, 3) := by decide +kernel
theorem dX3_readProviso_55 : decode cX3_readProviso 55 = .ok (.aload_n 0, 1) := by decide +kernel
theorem dX3_readProviso_56 : decode cX3_readProviso 56 = .ok (.iload_n 2, 1) := by decide +kernel
theorem dX3_readProviso_57 : decode cX3_readProviso 57 = .ok (.invokevirtual 201, 3) := by decide +kernel
theorem dX3_readProviso_60 : decode cX3_readProviso 60 = .ok (.istore_n 3, 1) := by decide +kernel
theorem dX3_readProviso_61 : decode cX3_readProviso 61 = .ok (.iload_n 3, 1) := by decide +kernel
theorem dX3_readProviso_62 : decode cX3_readProviso 62 = .ok (.iconst (-1), 1) := by decide +kernel
theorem dX3_readProviso_63 : decode cX3_readProviso 63 = .ok (.if_icmp .ne 5, 3) := by decide +kernel
theorem dX3_readProviso_66 : decode cX3_readProviso 66 = .ok (.iconst 0, 1) := by decide +kernel
theorem dX3_readProviso_67 : decode cX3_readProviso 67 = .ok (.ireturn, 1) := by decide +kernel
theorem dX3_readProviso_68 : decode cX3_readProviso 68 = .ok (.aload_n 0, 1) := by decide +kernel
theorem dX3_readProviso_69 : decode cX3_readProviso 69 = .ok (.invokevirtual 232, 3) := by decide +kernel
theorem dX3_readProviso_72 : decode cX3_readProviso 72 = .ok (.istore 4, 2) := by decide +kernel
theorem dX3_readProviso_74 : decode cX3_readProviso 74 = .ok (.iload 4, 2) := by decide +kernel
theorem dX3_readProviso_76 : decode cX3_readProviso 76 = .ok (.iconst (-1), 1) := by decide +kernel
theorem dX3_readProviso_77 : decode cX3_readProviso 77 = .ok (.if_icmp .ne 5, 3) := by decide +kernel
theorem dX3_readProviso_80 : decode cX3_readProviso 80 = .ok (.iconst 0, 1) := by decide +kernel
theorem dX3_readProviso_81 : decode cX3_readProviso 81 = .ok (.ireturn, 1) := by decide +kernel
theorem dX3_readProviso_82 : decode cX3_readProviso 82 = .ok (.aload_n 0, 1) := by decide +kernel
theorem dX3_readProviso_83 : decode cX3_readProviso 83 = .ok (.iconst 1, 1) := by decide +kernel
theorem dX3_readProviso_84 : decode cX3_readProviso 84 = .ok (.iload 4, 2) := by decide +kernel
theorem dX3_readProviso_86 : decode cX3_readProviso 86 = .ok (.iconst 2, 1) := by decide +kernel
theorem dX3_readProviso_87 : decode cX3_readProviso 87 = .ok (.if_icmp .ne 8, 3) := by decide +kernel
theorem dX3_readProviso_90 : decode cX3_readProviso 90 = .ok (.bipush 100, 2) := by decide +kernel
theorem dX3_readProviso_92 : decode cX3_readProviso 92 = .ok (.goto 5, 3) := by decide +kernel
theorem dX3_readProviso_95 : decode cX3_readProviso 95 = .ok (.ldc 235, 2) := by decide +kernel
theorem dX3_readProviso_97 : decode cX3_readProviso 97 = .ok (.invokevirtual 212, 3) := by decide +kernel
theorem dX3_readProviso_100 : decode cX3_readProviso 100 = .ok (.istore 5, 2) := by decide +kernel
theorem dX3_readProviso_102 : decode cX3_readProviso 102 = .ok (.iload 5, 2) := by decide +kernel
theorem dX3_readProviso_104 : decode cX3_readProviso 104 = .ok (.iconst (-1), 1) := by decide +kernel
theorem dX3_readProviso_105 : decode cX3_readProviso 105 = .ok (.if_icmp .ne 5, 3) := by decide +kernel
theorem dX3_readProviso_108 : decode cX3_readProviso 108 = .ok (.iconst 0, 1) := by decide +kernel
theorem dX3_readProviso_109 : decode cX3_readProviso 109 = .ok (.ireturn, 1) := by decide +kernel
theorem dX3_readProviso_110 : decode cX3_readProviso 110 = .ok (.bipush (-2), 2) := by decide +kernel
theorem dX3_readProviso_112 : decode cX3_readProviso 112 = .ok (.istore 6, 2) := by decide +kernel
theorem dX3_readProviso_114 : decode cX3_readProviso 114 = .ok (.aload_n 0, 1) := by decide +kernel
theorem dX3_readProviso_115 : decode cX3_readProviso 115 = .ok (.getfield 24, 3) := by decide +kernel
theorem dX3_readProviso_118 : decode cX3_readProviso 118 = .ok (.getstatic 236, 3) := by decide +kernel
theorem dX3_readProviso_121 : decode cX3_readProviso 121 = .ok (.if_acmp .ne 14, 3) := by decide +kernel
theorem dX3_readProviso_124 : decode cX3_readProviso 124 = .ok (.aload_n 0, 1) := by decide +kernel
theorem dX3_readProviso_125 : decode cX3_readProviso 125 = .ok (.invokevirtual 65, 3) := by decide +kernel
theorem dX3_readProviso_128 : decode cX3_readProviso 128 = .ok (.aload_n 0, 1) := by decide +kernel
theorem dX3_readProviso_129 : decode cX3_readProviso 129 = .ok (.iload_n 1, 1) := by decide +kernel
theorem dX3_readProviso_130 : decode cX3_readProviso 130 = .ok (.invokevirtual 226, 3) := by decide +kernel
theorem dX3_readProviso_133 : decode cX3_readProviso 133 = .ok (.istore 6, 2) := by decide +kernel
theorem dX3_readProviso_135 : decode cX3_readProviso 135 = .ok (.iload 6, 2) := by decide +kernel
theorem dX3_readProviso_137 : decode cX3_readProviso 137 = .ok (.iconst (-1), 1) := by decide +kernel
theorem dX3_readProviso_138 : decode cX3_readProviso 138 = .ok (.if_icmp .ne 5, 3) := by decide +kernel
theorem dX3_readProviso_141 : decode cX3_readProviso 141 = .ok (.iconst 0, 1) := by decide +kernel
theorem dX3_readProviso_142 : decode cX3_readProviso 142 = .ok (.ireturn, 1) := by decide +kernel
theorem dX3_readProviso_143 : decode cX3_readProviso 143 = .ok (.aload_n 0, 1) := by decide +kernel
theorem dX3_readProviso_144 : decode cX3_readProviso 144 = .ok (.getfield 50, 3) := by decide +kernel
theorem dX3_readProviso_147 : decode cX3_readProviso 147 = .ok (.iload_n 1, 1) := by decide +kernel
theorem dX3_readProviso_148 : decode cX3_readProviso 148 = .ok (.iload_n 2, 1) := by decide +kernel
theorem dX3_readProviso_149 : decode cX3_readProviso 149 = .ok (.iload_n 3, 1) := by decide +kernel
theorem dX3_readProviso_150 : decode cX3_readProviso 150 = .ok (.iload 4, 2) := by decide +kernel
theorem dX3_readProviso_152 : decode cX3_readProviso 152 = .ok (.iload 5, 2) := by decide +kernel
theorem dX3_readProviso_154 : decode cX3_readProviso 154 = .ok (.iload 6, 2) := by decide +kernel
theorem dX3_readProviso_156 : decode cX3_readProviso 156 = .ok (.invokevirtual 239, 3) := by decide +kernel
theorem dX3_readProviso_159 : decode cX3_readProviso 159 = .ok (.aload_n 0, 1) := by decide +kernel
theorem dX3_readProviso_160 : decode cX3_readProviso 160 = .ok (.invokevirtual 195, 3) := by decide +kernel
theorem dX3_readProviso_163 : decode cX3_readProviso 163 = .ok (.ireturn, 1) := by decide +kernel
theorem dX3_readBase_0 : decode cX3_readBase 0 = .ok (.aload_n 0, 1) := by decide +kernel
theorem dX3_readBase_1 : decode cX3_readBase 1 = .ok (.invokevirtual 65, 3) := by decide +kernel
theorem dX3_readBase_4 : decode cX3_readBase 4 = .ok (.aload_n 0, 1) := by decide +kernel
theorem dX3_readBase_5 : decode cX3_readBase 5 = .ok (.iconst (-1), 1) := by decide +kernel
theorem dX3_readBase_6 : decode cX3_readBase 6 = .ok (.invokevirtual 226, 3) := by decide +kernel
theorem dX3_readBase_9 : decode cX3_readBase 9 = .ok (.istore_n 1, 1) := by decide +kernel
theorem dX3_readBase_10 : decode cX3_readBase 10 = .ok (.iload_n 1, 1) := by decide +kernel
theorem dX3_readBase_11 : decode cX3_readBase 11 = .ok (.iconst (-1), 1) := by decide +kernel
theorem dX3_readBase_12 : decode cX3_readBase 12 = .ok (.if_icmp .ne 5, 3) := by decide +kernel
theorem dX3_readBase_15 : decode cX3_readBase 15 = .ok (.iconst 0, 1) := by decide +kernel
theorem dX3_readBase_16 : decode cX3_readBase 16 = .ok (.ireturn, 1) := by decide +kernel
theorem dX3_readBase_17 : decode cX3_readBase 17 = .ok (.aload_n 0, 1) := by decide +kernel
theorem dX3_readBase_18 : decode cX3_readBase 18 = .ok (.iconst (-1), 1) := by decide +kernel
theorem dX3_readBase_19 : decode cX3_readBase 19 = .ok (.invokevirtual 201, 3) := by decide +kernel
theorem dX3_readBase_22 : decode cX3_readBase 22 = .ok (.istore_n 2, 1) := by decide +kernel
theorem dX3_readBase_23 : decode cX3_readBase 23 = .ok (.iload_n 2, 1) := by decide +kernel
theorem dX3_readBase_24 : decode cX3_readBase 24 = .ok (.iconst (-1), 1) := by decide +kernel
theorem dX3_readBase_25 : decode cX3_readBase 25 = .ok (.if_icmp .ne 5, 3) := by decide +kernel
theorem dX3_readBase_28 : decode cX3_readBase 28 = .ok (.iconst 0, 1) := by decide +kernel
theorem dX3_readBase_29 : decode cX3_readBase 29 = .ok (.ireturn, 1) := by decide +kernel
theorem dX3_readBase_30 : decode cX3_readBase 30 = .ok (.aload_n 0, 1) := by decide +kernel
theorem dX3_readBase_31 : decode cX3_readBase 31 = .ok (.iload_n 2, 1) := by decide +kernel
theorem dX3_readBase_32 : decode cX3_readBase 32 = .ok (.invokevirtual 201, 3) := by decide +kernel
theorem dX3_readBase_35 : decode cX3_readBase 35 = .ok (.istore_n 3, 1) := by decide +kernel
theorem dX3_readBase_36 : decode cX3_readBase 36 = .ok (.iload_n 3, 1) := by decide +kernel
theorem dX3_readBase_37 : decode cX3_readBase 37 = .ok (.iconst (-1), 1) := by decide +kernel
theorem dX3_readBase_38 : decode cX3_readBase 38 = .ok (.if_icmp .ne 5, 3) := by decide +kernel
theorem dX3_readBase_41 : decode cX3_readBase 41 = .ok (.iconst 0, 1) := by decide +kernel
theorem dX3_readBase_42 : decode cX3_readBase 42 = .ok (.ireturn, 1) := by decide +kernel
theorem dX3_readBase_43 : decode cX3_readBase 43 = .ok (.aload_n 0, 1) := by decide +kernel
theorem dX3_readBase_44 : decode cX3_readBase 44 = .ok (.getfield 50, 3) := by decide +kernel
theorem dX3_readBase_47 : decode cX3_readBase 47 = .ok (.iload_n 1, 1) := by decide +kernel
theorem dX3_readBase_48 : decode cX3_readBase 48 = .ok (.iload_n 2, 1) := by decide +kernel
theorem dX3_readBase_49 : decode cX3_readBase 49 = .ok (.iload_n 3, 1) := by decide +kernel
theorem dX3_readBase_50 : decode cX3_readBase 50 = .ok (.invokevirtual 243, 3) := by decide +kernel
theorem dX3_readBase_53 : decode cX3_readBase 53 = .ok (.iconst (-1), 1) := by decide +kernel
theorem dX3_readBase_54 : decode cX3_readBase 54 = .ok (.if_icmp .eq 9, 3) := by decide +kernel
theorem dX3_readBase_57 : decode cX3_readBase 57 = .ok (.aload_n 0, 1) := by decide +kernel
theorem dX3_readBase_58 : decode cX3_readBase 58 = .ok (.iconst 3, 1) := by decide +kernel
theorem dX3_readBase_59 : decode cX3_readBase 59 = .ok (.invokevirtual 209, 3) := by decide +kernel
theorem dX3_readBase_62 : decode cX3_readBase 62 = .ok (.ireturn, 1) := by decide +kernel
theorem dX3_readBase_63 : decode cX3_readBase 63 = .ok (.aload_n 0, 1) := by decide +kernel
theorem dX3_readBase_64 : decode cX3_readBase 64 = .ok (.iconst 1, 1) := by decide +kernel
theorem dX3_readBase_65 : decode cX3_readBase 65 = .ok (.ldc 235, 2) := by decide +kernel
theorem dX3_readBase_67 : decode cX3_readBase 67 = .ok (.invokevirtual 212, 3) := by decide +kernel
theorem dX3_readBase_70 : decode cX3_readBase 70 = .ok (.istore 4, 2) := by decide +kernel
theorem dX3_readBase_72 : decode cX3_readBase 72 = .ok (.iload 4, 2) := by decide +kernel
theorem dX3_readBase_74 : decode cX3_readBase 74 = .ok (.iconst (-1), 1) := by decide +kernel
theorem dX3_readBase_75 : decode cX3_readBase 75 = .ok (.if_icmp .ne 5, 3) := by decide +kernel
theorem dX3_readBase_78 : decode cX3_readBase 78 = .ok (.iconst 0, 1) := by decide +kernel
theorem dX3_readBase_79 : decode cX3_readBase 79 = .ok (.ireturn, 1) := by decide +kernel
theorem dX3_readBase_80 : decode cX3_readBase 80 = .ok (.aload_n 0, 1) := by decide +kernel
theorem dX3_readBase_81 : decode cX3_readBase 81 = .ok (.getfield 50, 3) := by decide +kernel
theorem dX3_readBase_84 : decode cX3_readBase 84 = .ok (.iload_n 1, 1) := by decide +kernel
theorem dX3_readBase_85 : decode cX3_readBase 85 = .ok (.iload_n 2, 1) := by decide +kernel
theorem dX3_readBase_86 : decode cX3_readBase 86 = .ok (.iload_n 3, 1) := by decide +kernel
theorem dX3_readBase_87 : decode cX3_readBase 87 = .ok (.iload 4, 2) := by decide +kernel
theorem dX3_readBase_89 : decode cX3_readBase 89 = .ok (.invokevirtual 247, 3) := by decide +kernel
theorem dX3_readBase_92 : decode cX3_readBase 92 = .ok (.aload_n 0, 1) := by decide +kernel
theorem dX3_readBase_93 : decode cX3_readBase 93 = .ok (.invokevirtual 195, 3) := by decide +kernel
theorem dX3_readBase_96 : decode cX3_readBase 96 = .ok (.ireturn, 1) := by decide +kernel
theorem dX3_readRate_0 : decode cX3_readRate 0 = .ok (.aload_n 0, 1) := by decide +kernel
theorem dX3_readRate_1 : decode cX3_readRate 1 = .ok (.invokevirtual 65, 3) := by decide +kernel
theorem dX3_readRate_4 : decode cX3_readRate 4 = .ok (.aload_n 0, 1) := by decide +kernel
theorem dX3_readRate_5 : decode cX3_readRate 5 = .ok (.iconst 1, 1) := by decide +kernel
theorem dX3_readRate_6 : decode cX3_readRate 6 = .ok (.bipush 99, 2) := by decide +kernel
theorem dX3_readRate_8 : decode cX3_readRate 8 = .ok (.invokevirtual 212, 3) := by decide +kernel
theorem dX3_readRate_11 : decode cX3_readRate 11 = .ok (.istore_n 1, 1) := by decide +kernel
theorem dX3_readRate_12 : decode cX3_readRate 12 = .ok (.iload_n 1, 1) := by decide +kernel
theorem dX3_readRate_13 : decode cX3_readRate 13 = .ok (.iconst (-1), 1) := by decide +kernel
theorem dX3_readRate_14 : decode cX3_readRate 14 = .ok (.if_icmp .ne 5, 3) := by decide +kernel
theorem dX3_readRate_17 : decode cX3_readRate 17 = .ok (.iconst 0, 1) := by decide +kernel
theorem dX3_readRate_18 : decode cX3_readRate 18 = .ok (.ireturn, 1) := by decide +kernel
theorem dX3_readRate_19 : decode cX3_readRate 19 = .ok (.aload_n 0, 1) := by decide +kernel
theorem dX3_readRate_20 : decode cX3_readRate 20 = .ok (.getfield 50, 3) := by decide +kernel
theorem dX3_readRate_23 : decode cX3_readRate 23 = .ok (.iload_n 1, 1) := by decide +kernel
theorem dX3_readRate_24 : decode cX3_readRate 24 = .ok (.putfield 251, 3) := by decide +kernel
theorem dX3_readRate_27 : decode cX3_readRate 27 = .ok (.aload_n 0, 1) := by decide +kernel
theorem dX3_readRate_28 : decode cX3_readRate 28 = .ok (.getfield 50, 3) := by decide +kernel
theorem dX3_readRate_31 : decode cX3_readRate 31 = .ok (.iconst 1, 1) := by decide +kernel
theorem dX3_readRate_32 : decode cX3_readRate 32 = .ok (.putfield 150, 3) := by decide +kernel
theorem dX3_readRate_35 : decode cX3_readRate 35 = .ok (.aload_n 0, 1) := by decide +kernel
theorem dX3_readRate_36 : decode cX3_readRate 36 = .ok (.invokevirtual 195, 3) := by decide +kernel
theorem dX3_readRate_39 : decode cX3_readRate 39 = .ok (.ireturn, 1) := by decide +kernel
theorem dX3_readTicket_0 : decode cX3_readTicket 0 = .ok (.aload_n 0, 1) := by decide +kernel
theorem dX3_readTicket_1 : decode cX3_readTicket 1 = .ok (.invokevirtual 65, 3) := by decide +kernel
theorem dX3_readTicket_4 : decode cX3_readTicket 4 = .ok (.aload_n 0, 1) := by decide +kernel
theorem dX3_readTicket_5 : decode cX3_readTicket 5 = .ok (.invokevirtual 187, 3) := by decide +kernel
theorem dX3_readTicket_8 : decode cX3_readTicket 8 = .ok (.lstore_n 1, 1) := by decide +kernel
theorem dX3_readTicket_9 : decode cX3_readTicket 9 = .ok (.lload_n 1, 1) := by decide +kernel
theorem dX3_readTicket_10 : decode cX3_readTicket 10 = .ok (.lconst 0, 1) := by decide +kernel
theorem dX3_readTicket_11 : decode cX3_readTicket 11 = .ok (.lcmp, 1) := by decide +kernel
theorem dX3_readTicket_12 : decode cX3_readTicket 12 = .ok (.ifCond .ne 5, 3) := by decide +kernel
theorem dX3_readTicket_15 : decode cX3_readTicket 15 = .ok (.iconst 0, 1) := by decide +kernel
theorem dX3_readTicket_16 : decode cX3_readTicket 16 = .ok (.ireturn, 1) := by decide +kernel
theorem dX3_readTicket_17 : decode cX3_readTicket 17 = .ok (.aload_n 0, 1) := by decide +kernel
theorem dX3_readTicket_18 : decode cX3_readTicket 18 = .ok (.iconst 1, 1) := by decide +kernel
theorem dX3_readTicket_19 : decode cX3_readTicket 19 = .ok (.ldc 254, 2) := by decide +kernel
theorem dX3_readTicket_21 : decode cX3_readTicket 21 = .ok (.invokevirtual 212, 3) := by decide +kernel
theorem dX3_readTicket_24 : decode cX3_readTicket 24 = .ok (.istore_n 3, 1) := by decide +kernel
theorem dX3_readTicket_25 : decode cX3_readTicket 25 = .ok (.iload_n 3, 1) := by decide +kernel
theorem dX3_readTicket_26 : decode cX3_readTicket 26 = .ok (.iconst (-1), 1) := by decide +kernel
theorem dX3_readTicket_27 : decode cX3_readTicket 27 = .ok (.if_icmp .ne 5, 3) := by decide +kernel
theorem dX3_readTicket_30 : decode cX3_readTicket 30 = .ok (.iconst 0, 1) := by decide +kernel
theorem dX3_readTicket_31 : decode cX3_readTicket 31 = .ok (.ireturn, 1) := by decide +kernel
theorem dX3_readTicket_32 : decode cX3_readTicket 32 = .ok (.aload_n 0, 1) := by decide +kernel
theorem dX3_readTicket_33 : decode cX3_readTicket 33 = .ok (.invokevirtual 255, 3) := by decide +kernel
theorem dX3_readTicket_36 : decode cX3_readTicket 36 = .ok (.istore 4, 2) := by decide +kernel
theorem dX3_readTicket_38 : decode cX3_readTicket 38 = .ok (.iload 4, 2) := by decide +kernel
theorem dX3_readTicket_40 : decode cX3_readTicket 40 = .ok (.iconst (-1), 1) := by decide +kernel
theorem dX3_readTicket_41 : decode cX3_readTicket 41 = .ok (.if_icmp .ne 5, 3) := by decide +kernel
theorem dX3_readTicket_44 : decode cX3_readTicket 44 = .ok (.iconst 0, 1) := by decide +kernel
theorem dX3_readTicket_45 : decode cX3_readTicket 45 = .ok (.ireturn, 1) := by decide +kernel
theorem dX3_readTicket_46 : decode cX3_readTicket 46 = .ok (.aload_n 0, 1) := by decide +kernel
theorem dX3_readTicket_47 : decode cX3_readTicket 47 = .ok (.iconst (-1), 1) := by decide +kernel
theorem dX3_readTicket_48 : decode cX3_readTicket 48 = .ok (.invokevirtual 201, 3) := by decide +kernel
theorem dX3_readTicket_51 : decode cX3_readTicket 51 = .ok (.istore 5, 2) := by decide +kernel
theorem dX3_readTicket_53 : decode cX3_readTicket 53 = .ok (.iload 5, 2) := by decide +kernel
theorem dX3_readTicket_55 : decode cX3_readTicket 55 = .ok (.iconst (-1), 1) := by decide +kernel
theorem dX3_readTicket_56 : decode cX3_readTicket 56 = .ok (.if_icmp .ne 5, 3) := by decide +kernel
theorem dX3_readTicket_59 : decode cX3_readTicket 59 = .ok (.iconst 0, 1) := by decide +kernel
theorem dX3_readTicket_60 : decode cX3_readTicket 60 = .ok (.ireturn, 1) := by decide +kernel
theorem dX3_readTicket_61 : decode cX3_readTicket 61 = .ok (.aload_n 0, 1) := by decide +kernel
theorem dX3_readTicket_62 : decode cX3_readTicket 62 = .ok (.getfield 50, 3) := by decide +kernel
theorem dX3_readTicket_65 : decode cX3_readTicket 65 = .ok (.iload_n 3, 1) := by decide +kernel
theorem dX3_readTicket_66 : decode cX3_readTicket 66 = .ok (.iload 4, 2) := by decide +kernel
theorem dX3_readTicket_68 : decode cX3_readTicket 68 = .ok (.iload 5, 2) := by decide +kernel
theorem dX3_readTicket_70 : decode cX3_readTicket 70 = .ok (.invokevirtual 258, 3) := by decide +kernel
theorem dX3_readTicket_73 : decode cX3_readTicket 73 = .ok (.iconst 0, 1) := by decide +kernel
theorem dX3_readTicket_74 : decode cX3_readTicket 74 = .ok (.istore 6, 2) := by decide +kernel
theorem dX3_readTicket_76 : decode cX3_readTicket 76 = .ok (.iload 6, 2) := by decide +kernel
theorem dX3_readTicket_78 : decode cX3_readTicket 78 = .ok (.bipush 8, 2) := by decide +kernel
theorem dX3_readTicket_80 : decode cX3_readTicket 80 = .ok (.if_icmp .gt 55, 3) := by decide +kernel
theorem dX3_readTicket_83 : decode cX3_readTicket 83 = .ok (.iload 6, 2) := by decide +kernel
theorem dX3_readTicket_85 : decode cX3_readTicket 85 = .ok (.ifCond .le 26, 3) := by decide +kernel
theorem dX3_readTicket_88 : decode cX3_readTicket 88 = .ok (.aload_n 0, 1) := by decide +kernel
theorem dX3_readTicket_89 : decode cX3_readTicket 89 = .ok (.getfield 24, 3) := by decide +kernel
theorem dX3_readTicket_92 : decode cX3_readTicket 92 = .ok (.getstatic 74, 3) := by decide +kernel
theorem dX3_readTicket_95 : decode cX3_readTicket 95 = .ok (.if_acmp .ne 16, 3) := by decide +kernel
theorem dX3_readTicket_98 : decode cX3_readTicket 98 = .ok (.aload_n 0, 1) := by decide +kernel
theorem dX3_readTicket_99 : decode cX3_readTicket 99 = .ok (.getfield 50, 3) := by decide +kernel
theorem dX3_readTicket_102 : decode cX3_readTicket 102 = .ok (.lload_n 1, 1) := by decide +kernel
theorem dX3_readTicket_103 : decode cX3_readTicket 103 = .ok (.invokevirtual 261, 3) := by decide +kernel
theorem dX3_readTicket_106 : decode cX3_readTicket 106 = .ok (.aload_n 0, 1) := by decide +kernel
theorem dX3_readTicket_107 : decode cX3_readTicket 107 = .ok (.invokevirtual 195, 3) := by decide +kernel
theorem dX3_readTicket_110 : decode cX3_readTicket 110 = .ok (.ireturn, 1) := by decide +kernel
theorem dX3_readTicket_111 : decode cX3_readTicket 111 = .ok (.aload_n 0, 1) := by decide +kernel
theorem dX3_readTicket_112 : decode cX3_readTicket 112 = .ok (.iload 6, 2) := by decide +kernel
theorem dX3_readTicket_114 : decode cX3_readTicket 114 = .ok (.iload 5, 2) := by decide +kernel
theorem dX3_readTicket_116 : decode cX3_readTicket 116 = .ok (.invokevirtual 264, 3) := by decide +kernel
theorem dX3_readTicket_119 : decode cX3_readTicket 119 = .ok (.istore 5, 2) := by decide +kernel
theorem dX3_readTicket_121 : decode cX3_readTicket 121 = .ok (.iload 5, 2) := by decide +kernel
theorem dX3_readTicket_123 : decode cX3_readTicket 123 = .ok (.iconst (-1), 1) := by decide +kernel
theorem dX3_readTicket_124 : decode cX3_readTicket 124 = .ok (.if_icmp .ne 5, 3) := by decide +kernel
theorem dX3_readTicket_127 : decode cX3_readTicket 127 = .ok (.iconst 0, 1) := by decide +kernel
theorem dX3_readTicket_128 : decode cX3_readTicket 128 = .ok (.ireturn, 1) := by decide +kernel
theorem dX3_readTicket_129 : decode cX3_readTicket 129 = .ok (.iinc 6 1, 3) := by decide +kernel
theorem dX3_readTicket_132 : decode cX3_readTicket 132 = .ok (.goto (-56), 3) := by decide +kernel
theorem dX3_readTicket_135 : decode cX3_readTicket 135 = .ok (.iconst 0, 1) := by decide +kernel
theorem dX3_readTicket_136 : decode cX3_readTicket 136 = .ok (.ireturn, 1) := by decide +kernel
theorem dX3_readCoupon_0 : decode cX3_readCoupon 0 = .ok (.aload_n 0, 1) := by decide +kernel
theorem dX3_readCoupon_1 : decode cX3_readCoupon 1 = .ok (.iconst (-1), 1) := by decide +kernel
theorem dX3_readCoupon_2 : decode cX3_readCoupon 2 = .ok (.invokevirtual 226, 3) := by decide +kernel
theorem dX3_readCoupon_5 : decode cX3_readCoupon 5 = .ok (.istore_n 3, 1) := by decide +kernel
theorem dX3_readCoupon_6 : decode cX3_readCoupon 6 = .ok (.iload_n 3, 1) := by decide +kernel
theorem dX3_readCoupon_7 : decode cX3_readCoupon 7 = .ok (.iconst (-1), 1) := by decide +kernel
theorem dX3_readCoupon_8 : decode cX3_readCoupon 8 = .ok (.if_icmp .ne 5, 3) := by decide +kernel
theorem dX3_readCoupon_11 : decode cX3_readCoupon 11 = .ok (.iconst (-1), 1) := by decide +kernel
theorem dX3_readCoupon_12 : decode cX3_readCoupon 12 = .ok (.ireturn, 1) := by decide +kernel
theorem dX3_readCoupon_13 : decode cX3_readCoupon 13 = .ok (.iload_n 1, 1) := by decide +kernel
theorem dX3_readCoupon_14 : decode cX3_readCoupon 14 = .ok (.bipush 8, 2) := by decide +kernel
theorem dX3_readCoupon_16 : decode cX3_readCoupon 16 = .ok (.if_icmp .lt 11, 3) := by decide +kernel
theorem dX3_readCoupon_19 : decode cX3_readCoupon 19 = .ok (.aload_n 0, 1) := by decide +kernel
theorem dX3_readCoupon_20 : decode cX3_readCoupon 20 = .ok (.iconst 2, 1) := by decide +kernel
theorem dX3_readCoupon_21 : decode cX3_readCoupon 21 = .ok (.invokevirtual 209, 3) := by decide +kernel
theorem dX3_readCoupon_24 : decode cX3_readCoupon 24 = .ok (.pop, 1) := by decide +kernel
theorem dX3_readCoupon_25 : decode cX3_readCoupon 25 = .ok (.iconst (-1), 1) := by decide +kernel
theorem dX3_readCoupon_26 : decode cX3_readCoupon 26 = .ok (.ireturn, 1) := by decide +kernel
theorem dX3_readCoupon_27 : decode cX3_readCoupon 27 = .ok (.aload_n 0, 1) := by decide +kernel
theorem dX3_readCoupon_28 : decode cX3_readCoupon 28 = .ok (.iload_n 2, 1) := by decide +kernel
theorem dX3_readCoupon_29 : decode cX3_readCoupon 29 = .ok (.invokevirtual 201, 3) := by decide +kernel
theorem dX3_readCoupon_32 : decode cX3_readCoupon 32 = .ok (.istore 4, 2) := by decide +kernel
theorem dX3_readCoupon_34 : decode cX3_readCoupon 34 = .ok (.iload 4, 2) := by decide +kernel
theorem dX3_readCoupon_36 : decode cX3_readCoupon 36 = .ok (.iconst (-1), 1) := by decide +kernel
theorem dX3_readCoupon_37 : decode cX3_readCoupon 37 = .ok (.if_icmp .ne 5, 3) := by decide +kernel
theorem dX3_readCoupon_40 : decode cX3_readCoupon 40 = .ok (.iconst (-1), 1) := by decide +kernel
theorem dX3_readCoupon_41 : decode cX3_readCoupon 41 = .ok (.ireturn, 1) := by decide +kernel
theorem dX3_readCoupon_42 : decode cX3_readCoupon 42 = .ok (.aload_n 0, 1) := by decide +kernel
theorem dX3_readCoupon_43 : decode cX3_readCoupon 43 = .ok (.getfield 50, 3) := by decide +kernel
theorem dX3_readCoupon_46 : decode cX3_readCoupon 46 = .ok (.iload_n 2, 1) := by decide +kernel
theorem dX3_readCoupon_47 : decode cX3_readCoupon 47 = .ok (.iload 4, 2) := by decide +kernel
theorem dX3_readCoupon_49 : decode cX3_readCoupon 49 = .ok (.invokevirtual 267, 3) := by decide +kernel
theorem dX3_readCoupon_52 : decode cX3_readCoupon 52 = .ok (.ifCond .ne 11, 3) := by decide +kernel
theorem dX3_readCoupon_55 : decode cX3_readCoupon 55 = .ok (.aload_n 0, 1) := by decide +kernel
theorem dX3_readCoupon_56 : decode cX3_readCoupon 56 = .ok (.iconst 1, 1) := by decide +kernel
theorem dX3_readCoupon_57 : decode cX3_readCoupon 57 = .ok (.invokevirtual 209, 3) := by decide +kernel
theorem dX3_readCoupon_60 : decode cX3_readCoupon 60 = .ok (.pop, 1) := by decide +kernel
theorem dX3_readCoupon_61 : decode cX3_readCoupon 61 = .ok (.iconst (-1), 1) := by decide +kernel
theorem dX3_readCoupon_62 : decode cX3_readCoupon 62 = .ok (.ireturn, 1) := by decide +kernel
theorem dX3_readCoupon_63 : decode cX3_readCoupon 63 = .ok (.aload_n 0, 1) := by decide +kernel
theorem dX3_readCoupon_64 : decode cX3_readCoupon 64 = .ok (.getfield 50, 3) := by decide +kernel
theorem dX3_readCoupon_67 : decode cX3_readCoupon 67 = .ok (.iload_n 1, 1) := by decide +kernel
theorem dX3_readCoupon_68 : decode cX3_readCoupon 68 = .ok (.iload_n 3, 1) := by decide +kernel
theorem dX3_readCoupon_69 : decode cX3_readCoupon 69 = .ok (.iload 4, 2) := by decide +kernel
theorem dX3_readCoupon_71 : decode cX3_readCoupon 71 = .ok (.invokevirtual 270, 3) := by decide +kernel
theorem dX3_readCoupon_74 : decode cX3_readCoupon 74 = .ok (.iload 4, 2) := by decide +kernel
theorem dX3_readCoupon_76 : decode cX3_readCoupon 76 = .ok (.ireturn, 1) := by decide +kernel
theorem dX4_init_0 : decode cX4_init 0 = .ok (.aload_n 0, 1) := by decide +kernel
theorem dX4_init_1 : decode cX4_init 1 = .ok (.invokespecial 3, 3) := by decide +kernel
theorem dX4_init_4 : decode cX4_init 4 = .ok (.aload_n 0, 1) := by decide +kernel
theorem dX4_init_5 : decode cX4_init 5 = .ok (.bipush 6, 2) := by decide +kernel
theorem dX4_init_7 : decode cX4_init 7 = .ok (.newarray .int, 2) := by decide +kernel
theorem dX4_init_9 : decode cX4_init 9 = .ok (.putfield 9, 3) := by decide +kernel
theorem dX4_init_12 : decode cX4_init 12 = .ok (.aload_n 0, 1) := by decide +kernel
theorem dX4_init_13 : decode cX4_init 13 = .ok (.bipush 6, 2) := by decide +kernel
theorem dX4_init_15 : decode cX4_init 15 = .ok (.iconst 3, 1) := by decide +kernel
theorem dX4_init_16 : decode cX4_init 16 = .ok (.multianewarray 15 2, 4) := by decide +kernel
theorem dX4_init_20 : decode cX4_init 20 = .ok (.putfield 17, 3) := by decide +kernel
theorem dX4_init_23 : decode cX4_init 23 = .ok (.aload_n 0, 1) := by decide +kernel
theorem dX4_init_24 : decode cX4_init 24 = .ok (.iconst 0, 1) := by decide +kernel
theorem dX4_init_25 : decode cX4_init 25 = .ok (.putfield 20, 3) := by decide +kernel
theorem dX4_init_28 : decode cX4_init 28 = .ok (.return_, 1) := by decide +kernel
theorem dX5_init_0 : decode cX5_init 0 = .ok (.aload_n 0, 1) := by decide +kernel
theorem dX5_init_1 : decode cX5_init 1 = .ok (.invokespecial 3, 3) := by decide +kernel
theorem dX5_init_4 : decode cX5_init 4 = .ok (.aload_n 0, 1) := by decide +kernel
theorem dX5_init_5 : decode cX5_init 5 = .ok (.iconst 0, 1) := by decide +kernel
theorem dX5_init_6 : decode cX5_init 6 = .ok (.putfield 9, 3) := by decide +kernel
theorem dX5_init_9 : decode cX5_init 9 = .ok (.aload_n 0, 1) := by decide +kernel
theorem dX5_init_10 : decode cX5_init 10 = .ok (.iconst 0, 1) := by decide +kernel
theorem dX5_init_11 : decode cX5_init 11 = .ok (.putfield 15, 3) := by decide +kernel
theorem dX5_init_14 : decode cX5_init 14 = .ok (.aload_n 0, 1) := by decide +kernel
theorem dX5_init_15 : decode cX5_init 15 = .ok (.iconst 0, 1) := by decide +kernel
theorem dX5_init_16 : decode cX5_init 16 = .ok (.putfield 18, 3) := by decide +kernel
theorem dX5_init_19 : decode cX5_init 19 = .ok (.aload_n 0, 1) := by decide +kernel
theorem dX5_init_20 : decode cX5_init 20 = .ok (.iconst 0, 1) := by decide +kernel
theorem dX5_init_21 : decode cX5_init 21 = .ok (.putfield 21, 3) := by decide +kernel
theorem dX5_init_24 : decode cX5_init 24 = .ok (.aload_n 0, 1) := by decide +kernel
theorem dX5_init_25 : decode cX5_init 25 = .ok (.iconst (-1), 1) := by decide +kernel
theorem dX5_init_26 : decode cX5_init 26 = .ok (.putfield 24, 3) := by decide +kernel
theorem dX5_init_29 : decode cX5_init 29 = .ok (.aload_n 0, 1) := by decide +kernel
theorem dX5_init_30 : decode cX5_init 30 = .ok (.bipush 8, 2) := by decide +kernel
theorem dX5_init_32 : decode cX5_init 32 = .ok (.newarray .int, 2) := by decide +kernel
theorem dX5_init_34 : decode cX5_init 34 = .ok (.putfield 27, 3) := by decide +kernel
theorem dX5_init_37 : decode cX5_init 37 = .ok (.aload_n 0, 1) := by decide +kernel
theorem dX5_init_38 : decode cX5_init 38 = .ok (.bipush 8, 2) := by decide +kernel
theorem dX5_init_40 : decode cX5_init 40 = .ok (.newarray .int, 2) := by decide +kernel
theorem dX5_init_42 : decode cX5_init 42 = .ok (.putfield 31, 3) := by decide +kernel
theorem dX5_init_45 : decode cX5_init 45 = .ok (.aload_n 0, 1) := by decide +kernel
theorem dX5_init_46 : decode cX5_init 46 = .ok (.bipush 8, 2) := by decide +kernel
theorem dX5_init_48 : decode cX5_init 48 = .ok (.newarray .int, 2) := by decide +kernel
theorem dX5_init_50 : decode cX5_init 50 = .ok (.putfield 34, 3) := by decide +kernel
theorem dX5_init_53 : decode cX5_init 53 = .ok (.aload_n 0, 1) := by decide +kernel
theorem dX5_init_54 : decode cX5_init 54 = .ok (.bipush 8, 2) := by decide +kernel
theorem dX5_init_56 : decode cX5_init 56 = .ok (.newarray .int, 2) := by decide +kernel
theorem dX5_init_58 : decode cX5_init 58 = .ok (.putfield 37, 3) := by decide +kernel
theorem dX5_init_61 : decode cX5_init 61 = .ok (.aload_n 0, 1) := by decide +kernel
theorem dX5_init_62 : decode cX5_init 62 = .ok (.bipush 8, 2) := by decide +kernel
theorem dX5_init_64 : decode cX5_init 64 = .ok (.newarray .long, 2) := by decide +kernel
theorem dX5_init_66 : decode cX5_init 66 = .ok (.putfield 40, 3) := by decide +kernel
theorem dX5_init_69 : decode cX5_init 69 = .ok (.aload_n 0, 1) := by decide +kernel
theorem dX5_init_70 : decode cX5_init 70 = .ok (.bipush 8, 2) := by decide +kernel
theorem dX5_init_72 : decode cX5_init 72 = .ok (.newarray .long, 2) := by decide +kernel
theorem dX5_init_74 : decode cX5_init 74 = .ok (.putfield 44, 3) := by decide +kernel
theorem dX5_init_77 : decode cX5_init 77 = .ok (.aload_n 0, 1) := by decide +kernel
theorem dX5_init_78 : decode cX5_init 78 = .ok (.bipush 8, 2) := by decide +kernel
theorem dX5_init_80 : decode cX5_init 80 = .ok (.newarray .int, 2) := by decide +kernel
theorem dX5_init_82 : decode cX5_init 82 = .ok (.putfield 47, 3) := by decide +kernel
theorem dX5_init_85 : decode cX5_init 85 = .ok (.aload_n 0, 1) := by decide +kernel
theorem dX5_init_86 : decode cX5_init 86 = .ok (.bipush 8, 2) := by decide +kernel
theorem dX5_init_88 : decode cX5_init 88 = .ok (.newarray .long, 2) := by decide +kernel
theorem dX5_init_90 : decode cX5_init 90 = .ok (.putfield 50, 3) := by decide +kernel
theorem dX5_init_93 : decode cX5_init 93 = .ok (.aload_n 0, 1) := by decide +kernel
theorem dX5_init_94 : decode cX5_init 94 = .ok (.bipush 8, 2) := by decide +kernel
theorem dX5_init_96 : decode cX5_init 96 = .ok (.newarray .boolean, 2) := by decide +kernel
theorem dX5_init_98 : decode cX5_init 98 = .ok (.putfield 53, 3) := by decide +kernel
theorem dX5_init_101 : decode cX5_init 101 = .ok (.aload_n 0, 1) := by decide +kernel
theorem dX5_init_102 : decode cX5_init 102 = .ok (.lconst 0, 1) := by decide +kernel
theorem dX5_init_103 : decode cX5_init 103 = .ok (.putfield 57, 3) := by decide +kernel
theorem dX5_init_106 : decode cX5_init 106 = .ok (.aload_n 0, 1) := by decide +kernel
theorem dX5_init_107 : decode cX5_init 107 = .ok (.iconst 0, 1) := by decide +kernel
theorem dX5_init_108 : decode cX5_init 108 = .ok (.putfield 61, 3) := by decide +kernel
theorem dX5_init_111 : decode cX5_init 111 = .ok (.aload_n 0, 1) := by decide +kernel
theorem dX5_init_112 : decode cX5_init 112 = .ok (.iconst 0, 1) := by decide +kernel
theorem dX5_init_113 : decode cX5_init 113 = .ok (.putfield 64, 3) := by decide +kernel
theorem dX5_init_116 : decode cX5_init 116 = .ok (.aload_n 0, 1) := by decide +kernel
theorem dX5_init_117 : decode cX5_init 117 = .ok (.aload_n 1, 1) := by decide +kernel
theorem dX5_init_118 : decode cX5_init 118 = .ok (.putfield 67, 3) := by decide +kernel
theorem dX5_init_121 : decode cX5_init 121 = .ok (.return_, 1) := by decide +kernel
theorem dX5_take_0 : decode cX5_take 0 = .ok (.aload_n 0, 1) := by decide +kernel
theorem dX5_take_1 : decode cX5_take 1 = .ok (.aload_n 1, 1) := by decide +kernel
theorem dX5_take_2 : decode cX5_take 2 = .ok (.putfield 67, 3) := by decide +kernel
theorem dX5_take_5 : decode cX5_take 5 = .ok (.aload_n 0, 1) := by decide +kernel
theorem dX5_take_6 : decode cX5_take 6 = .ok (.iload_n 3, 1) := by decide +kernel
theorem dX5_take_7 : decode cX5_take 7 = .ok (.putfield 9, 3) := by decide +kernel
theorem dX5_take_10 : decode cX5_take 10 = .ok (.aload_n 0, 1) := by decide +kernel
theorem dX5_take_11 : decode cX5_take 11 = .ok (.aload_n 1, 1) := by decide +kernel
theorem dX5_take_12 : decode cX5_take 12 = .ok (.iload_n 3, 1) := by decide +kernel
theorem dX5_take_13 : decode cX5_take 13 = .ok (.invokevirtual 71, 3) := by decide +kernel
theorem dX5_take_16 : decode cX5_take 16 = .ok (.putfield 15, 3) := by decide +kernel
theorem dX5_take_19 : decode cX5_take 19 = .ok (.aload_n 0, 1) := by decide +kernel
theorem dX5_take_20 : decode cX5_take 20 = .ok (.aload_n 2, 1) := by decide +kernel
theorem dX5_take_21 : decode cX5_take 21 = .ok (.getfield 77, 3) := by decide +kernel
theorem dX5_take_24 : decode cX5_take 24 = .ok (.iload_n 3, 1) := by decide +kernel
theorem dX5_take_25 : decode cX5_take 25 = .ok (.iaload, 1) := by decide +kernel
theorem dX5_take_26 : decode cX5_take 26 = .ok (.putfield 18, 3) := by decide +kernel
theorem dX5_take_29 : decode cX5_take 29 = .ok (.aload_n 0, 1) := by decide +kernel
theorem dX5_take_30 : decode cX5_take 30 = .ok (.aload_n 1, 1) := by decide +kernel
theorem dX5_take_31 : decode cX5_take 31 = .ok (.iload_n 3, 1) := by decide +kernel
theorem dX5_take_32 : decode cX5_take 32 = .ok (.invokevirtual 81, 3) := by decide +kernel
theorem dX5_take_35 : decode cX5_take 35 = .ok (.putfield 21, 3) := by decide +kernel
theorem dX5_take_38 : decode cX5_take 38 = .ok (.aload_n 0, 1) := by decide +kernel
theorem dX5_take_39 : decode cX5_take 39 = .ok (.iconst (-1), 1) := by decide +kernel
theorem dX5_take_40 : decode cX5_take 40 = .ok (.putfield 24, 3) := by decide +kernel
theorem dX5_take_43 : decode cX5_take 43 = .ok (.iconst 0, 1) := by decide +kernel
theorem dX5_take_44 : decode cX5_take 44 = .ok (.istore 4, 2) := by decide +kernel
theorem dX5_take_46 : decode cX5_take 46 = .ok (.iload 4, 2) := by decide +kernel
theorem dX5_take_48 : decode cX5_take 48 = .ok (.aload_n 0, 1) := by decide +kernel
theorem dX5_take_49 : decode cX5_take 49 = .ok (.getfield 15, 3) := by decide +kernel
theorem dX5_take_52 : decode cX5_take 52 = .ok (.if_icmp .ge 41, 3) := by decide +kernel
theorem dX5_take_55 : decode cX5_take 55 = .ok (.aload_n 0, 1) := by decide +kernel
theorem dX5_take_56 : decode cX5_take 56 = .ok (.getfield 27, 3) := by decide +kernel
theorem dX5_take_59 : decode cX5_take 59 = .ok (.iload 4, 2) := by decide +kernel
theorem dX5_take_61 : decode cX5_take 61 = .ok (.aload_n 2, 1) := by decide +kernel
theorem dX5_take_62 : decode cX5_take 62 = .ok (.getfield 84, 3) := by decide +kernel
theorem dX5_take_65 : decode cX5_take 65 = .ok (.iload_n 3, 1) := by decide +kernel
theorem dX5_take_66 : decode cX5_take 66 = .ok (.aaload, 1) := by decide +kernel
theorem dX5_take_67 : decode cX5_take 67 = .ok (.iload 4, 2) := by decide +kernel
theorem dX5_take_69 : decode cX5_take 69 = .ok (.iaload, 1) := by decide +kernel
theorem dX5_take_70 : decode cX5_take 70 = .ok (.iastore, 1) := by decide +kernel
theorem dX5_take_71 : decode cX5_take 71 = .ok (.aload_n 0, 1) := by decide +kernel
theorem dX5_take_72 : decode cX5_take 72 = .ok (.getfield 47, 3) := by decide +kernel
theorem dX5_take_75 : decode cX5_take 75 = .ok (.iload 4, 2) := by decide +kernel
theorem dX5_take_77 : decode cX5_take 77 = .ok (.aload_n 2, 1) := by decide +kernel
theorem dX5_take_78 : decode cX5_take 78 = .ok (.getfield 87, 3) := by decide +kernel
theorem dX5_take_81 : decode cX5_take 81 = .ok (.iload_n 3, 1) := by decide +kernel
theorem dX5_take_82 : decode cX5_take 82 = .ok (.aaload, 1) := by decide +kernel
theorem dX5_take_83 : decode cX5_take 83 = .ok (.iload 4, 2) := by decide +kernel
theorem dX5_take_85 : decode cX5_take 85 = .ok (.iaload, 1) := by decide +kernel
theorem dX5_take_86 : decode cX5_take 86 = .ok (.iastore, 1) := by decide +kernel
theorem dX5_take_87 : decode cX5_take 87 = .ok (.iinc 4 1, 3) := by decide +kernel
theorem dX5_take_90 : decode cX5_take 90 = .ok (.goto (-44), 3) := by decide +kernel
theorem dX5_take_93 : decode cX5_take 93 = .ok (.return_, 1) := by decide +kernel
theorem dX5_forgetProvisosAndFlown_0 : decode cX5_forgetProvisosAndFlown 0 = .ok (.aload_n 0, 1) := by decide +kernel
theorem dX5_forgetProvisosAndFlown_1 : decode cX5_forgetProvisosAndFlown 1 = .ok (.bipush (-2), 2) := by decide +kernel
theorem dX5_forgetProvisosAndFlown_3 : decode cX5_forgetProvisosAndFlown 3 = .ok (.putfield 24, 3) := by decide +kernel
theorem dX5_forgetProvisosAndFlown_6 : decode cX5_forgetProvisosAndFlown 6 = .ok (.aload_n 0, 1) := by decide +kernel
theorem dX5_forgetProvisosAndFlown_7 : decode cX5_forgetProvisosAndFlown 7 = .ok (.iconst 0, 1) := by decide +kernel
theorem dX5_forgetProvisosAndFlown_8 : decode cX5_forgetProvisosAndFlown 8 = .ok (.putfield 18, 3) := by decide +kernel
theorem dX5_forgetProvisosAndFlown_11 : decode cX5_forgetProvisosAndFlown 11 = .ok (.return_, 1) := by decide +kernel
theorem dX5_prorate_0 : decode cX5_prorate 0 = .ok (.aload_n 0, 1) := by decide +kernel
theorem dX5_prorate_1 : decode cX5_prorate 1 = .ok (.iconst 0, 1) := by decide +kernel
theorem dX5_prorate_2 : decode cX5_prorate 2 = .ok (.putfield 61, 3) := by decide +kernel
theorem dX5_prorate_5 : decode cX5_prorate 5 = .ok (.aload_n 0, 1) := by decide +kernel
theorem dX5_prorate_6 : decode cX5_prorate 6 = .ok (.aload_n 0, 1) := by decide +kernel
theorem dX5_prorate_7 : decode cX5_prorate 7 = .ok (.getfield 67, 3) := by decide +kernel
theorem dX5_prorate_10 : decode cX5_prorate 10 = .ok (.aload_n 0, 1) := by decide +kernel
theorem dX5_prorate_11 : decode cX5_prorate 11 = .ok (.getfield 9, 3) := by decide +kernel
theorem dX5_prorate_14 : decode cX5_prorate 14 = .ok (.invokevirtual 90, 3) := by decide +kernel
theorem dX5_prorate_17 : decode cX5_prorate 17 = .ok (.i2l, 1) := by decide +kernel
theorem dX5_prorate_18 : decode cX5_prorate 18 = .ok (.putfield 57, 3) := by decide +kernel
theorem dX5_prorate_21 : decode cX5_prorate 21 = .ok (.iconst 0, 1) := by decide +kernel
theorem dX5_prorate_22 : decode cX5_prorate 22 = .ok (.istore_n 1, 1) := by decide +kernel
theorem dX5_prorate_23 : decode cX5_prorate 23 = .ok (.iload_n 1, 1) := by decide +kernel
theorem dX5_prorate_24 : decode cX5_prorate 24 = .ok (.aload_n 0, 1) := by decide +kernel
theorem dX5_prorate_25 : decode cX5_prorate 25 = .ok (.getfield 15, 3) := by decide +kernel
theorem dX5_prorate_28 : decode cX5_prorate 28 = .ok (.if_icmp .ge 91, 3) := by decide +kernel
theorem dX5_prorate_31 : decode cX5_prorate 31 = .ok (.aload_n 0, 1) := by decide +kernel
theorem dX5_prorate_32 : decode cX5_prorate 32 = .ok (.getfield 31, 3) := by decide +kernel
theorem dX5_prorate_35 : decode cX5_prorate 35 = .ok (.iload_n 1, 1) := by decide +kernel
theorem dX5_prorate_36 : decode cX5_prorate 36 = .ok (.aload_n 0, 1) := by decide +kernel
theorem dX5_prorate_37 : decode cX5_prorate 37 = .ok (.iload_n 1, 1) := by decide +kernel
theorem dX5_prorate_38 : decode cX5_prorate 38 = .ok (.invokevirtual 93, 3) := by decide +kernel
theorem dX5_prorate_41 : decode cX5_prorate 41 = .ok (.iastore, 1) := by decide +kernel
theorem dX5_prorate_42 : decode cX5_prorate 42 = .ok (.aload_n 0, 1) := by decide +kernel
theorem dX5_prorate_43 : decode cX5_prorate 43 = .ok (.iload_n 1, 1) := by decide +kernel
theorem dX5_prorate_44 : decode cX5_prorate 44 = .ok (.invokevirtual 96, 3) := by decide +kernel
theorem dX5_prorate_47 : decode cX5_prorate 47 = .ok (.aload_n 0, 1) := by decide +kernel
theorem dX5_prorate_48 : decode cX5_prorate 48 = .ok (.getfield 44, 3) := by decide +kernel
theorem dX5_prorate_51 : decode cX5_prorate 51 = .ok (.iload_n 1, 1) := by decide +kernel
theorem dX5_prorate_52 : decode cX5_prorate 52 = .ok (.aload_n 0, 1) := by decide +kernel
theorem dX5_prorate_53 : decode cX5_prorate 53 = .ok (.iload_n 1, 1) := by decide +kernel
theorem dX5_prorate_54 : decode cX5_prorate 54 = .ok (.invokevirtual 100, 3) := by decide +kernel
theorem dX5_prorate_57 : decode cX5_prorate 57 = .ok (.lastore, 1) := by decide +kernel
theorem dX5_prorate_58 : decode cX5_prorate 58 = .ok (.iload_n 1, 1) := by decide +kernel
theorem dX5_prorate_59 : decode cX5_prorate 59 = .ok (.aload_n 0, 1) := by decide +kernel
theorem dX5_prorate_60 : decode cX5_prorate 60 = .ok (.getfield 18, 3) := by decide +kernel
theorem dX5_prorate_63 : decode cX5_prorate 63 = .ok (.if_icmp .ge 29, 3) := by decide +kernel
theorem dX5_prorate_66 : decode cX5_prorate 66 = .ok (.aload_n 0, 1) := by decide +kernel
theorem dX5_prorate_67 : decode cX5_prorate 67 = .ok (.getfield 37, 3) := by decide +kernel
theorem dX5_prorate_70 : decode cX5_prorate 70 = .ok (.iload_n 1, 1) := by decide +kernel
theorem dX5_prorate_71 : decode cX5_prorate 71 = .ok (.iconst 5, 1) := by decide +kernel
theorem dX5_prorate_72 : decode cX5_prorate 72 = .ok (.iastore, 1) := by decide +kernel
theorem dX5_prorate_73 : decode cX5_prorate 73 = .ok (.aload_n 0, 1) := by decide +kernel
theorem dX5_prorate_74 : decode cX5_prorate 74 = .ok (.dup, 1) := by decide +kernel
theorem dX5_prorate_75 : decode cX5_prorate 75 = .ok (.getfield 57, 3) := by decide +kernel
theorem dX5_prorate_78 : decode cX5_prorate 78 = .ok (.aload_n 0, 1) := by decide +kernel
theorem dX5_prorate_79 : decode cX5_prorate 79 = .ok (.getfield 47, 3) := by decide +kernel
theorem dX5_prorate_82 : decode cX5_prorate 82 = .ok (.iload_n 1, 1) := by decide +kernel
theorem dX5_prorate_83 : decode cX5_prorate 83 = .ok (.iaload, 1) := by decide +kernel
theorem dX5_prorate_84 : decode cX5_prorate 84 = .ok (.i2l, 1) := by decide +kernel
theorem dX5_prorate_85 : decode cX5_prorate 85 = .ok (.lsub, 1) := by decide +kernel
theorem dX5_prorate_86 : decode cX5_prorate 86 = .ok (.putfield 57, 3) := by decide +kernel
theorem dX5_prorate_89 : decode cX5_prorate 89 = .ok (.goto 24, 3) := by decide +kernel
theorem dX5_prorate_92 : decode cX5_prorate 92 = .ok (.aload_n 0, 1) := by decide +kernel
theorem dX5_prorate_93 : decode cX5_prorate 93 = .ok (.getfield 37, 3) := by decide +kernel
theorem dX5_prorate_96 : decode cX5_prorate 96 = .ok (.iload_n 1, 1) := by decide +kernel
theorem dX5_prorate_97 : decode cX5_prorate 97 = .ok (.iconst 0, 1) := by decide +kernel
theorem dX5_prorate_98 : decode cX5_prorate 98 = .ok (.iastore, 1) := by decide +kernel
theorem dX5_prorate_99 : decode cX5_prorate 99 = .ok (.aload_n 0, 1) := by decide +kernel
theorem dX5_prorate_100 : decode cX5_prorate 100 = .ok (.getfield 47, 3) := by decide +kernel
theorem dX5_prorate_103 : decode cX5_prorate 103 = .ok (.iload_n 1, 1) := by decide +kernel
theorem dX5_prorate_104 : decode cX5_prorate 104 = .ok (.iconst 0, 1) := by decide +kernel
theorem dX5_prorate_105 : decode cX5_prorate 105 = .ok (.iastore, 1) := by decide +kernel
theorem dX5_prorate_106 : decode cX5_prorate 106 = .ok (.aload_n 0, 1) := by decide +kernel
theorem dX5_prorate_107 : decode cX5_prorate 107 = .ok (.getfield 50, 3) := by decide +kernel
theorem dX5_prorate_110 : decode cX5_prorate 110 = .ok (.iload_n 1, 1) := by decide +kernel
theorem dX5_prorate_111 : decode cX5_prorate 111 = .ok (.lconst 0, 1) := by decide +kernel
theorem dX5_prorate_112 : decode cX5_prorate 112 = .ok (.lastore, 1) := by decide +kernel
theorem dX5_prorate_113 : decode cX5_prorate 113 = .ok (.iinc 1 1, 3) := by decide +kernel
theorem dX5_prorate_116 : decode cX5_prorate 116 = .ok (.goto (-93), 3) := by decide +kernel
theorem dX5_prorate_119 : decode cX5_prorate 119 = .ok (.aload_n 0, 1) := by decide +kernel
theorem dX5_prorate_120 : decode cX5_prorate 120 = .ok (.invokevirtual 104, 3) := by decide +kernel
theorem dX5_prorate_123 : decode cX5_prorate 123 = .ok (.ifCond .ne 22, 3) := by decide +kernel
theorem dX5_prorate_126 : decode cX5_prorate 126 = .ok (.aload_n 0, 1) := by decide +kernel
theorem dX5_prorate_127 : decode cX5_prorate 127 = .ok (.invokevirtual 108, 3) := by decide +kernel
theorem dX5_prorate_130 : decode cX5_prorate 130 = .ok (.ifCond .ne 15, 3) := by decide +kernel
theorem dX5_prorate_133 : decode cX5_prorate 133 = .ok (.aload_n 0, 1) := by decide +kernel
theorem dX5_prorate_134 : decode cX5_prorate 134 = .ok (.invokevirtual 111, 3) := by decide +kernel
theorem dX5_prorate_137 : decode cX5_prorate 137 = .ok (.ifCond .ne 8, 3) := by decide +kernel
theorem dX5_prorate_140 : decode cX5_prorate 140 = .ok (.aload_n 0, 1) := by decide +kernel
theorem dX5_prorate_141 : decode cX5_prorate 141 = .ok (.iconst 0, 1) := by decide +kernel
theorem dX5_prorate_142 : decode cX5_prorate 142 = .ok (.invokevirtual 114, 3) := by decide +kernel
theorem dX5_prorate_145 : decode cX5_prorate 145 = .ok (.aload_n 0, 1) := by decide +kernel
theorem dX5_prorate_146 : decode cX5_prorate 146 = .ok (.invokevirtual 117, 3) := by decide +kernel
theorem dX5_prorate_149 : decode cX5_prorate 149 = .ok (.return_, 1) := by decide +kernel
theorem dX5_weigh_0 : decode cX5_weigh 0 = .ok (.aload_n 0, 1) := by decide +kernel
theorem dX5_weigh_1 : decode cX5_weigh 1 = .ok (.getfield 34, 3) := by decide +kernel
theorem dX5_weigh_4 : decode cX5_weigh 4 = .ok (.iload_n 1, 1) := by decide +kernel
theorem dX5_weigh_5 : decode cX5_weigh 5 = .ok (.iconst 0, 1) := by decide +kernel
theorem dX5_weigh_6 : decode cX5_weigh 6 = .ok (.iastore, 1) := by decide +kernel
theorem dX5_weigh_7 : decode cX5_weigh 7 = .ok (.aload_n 0, 1) := by decide +kernel
theorem dX5_weigh_8 : decode cX5_weigh 8 = .ok (.getfield 40, 3) := by decide +kernel
theorem dX5_weigh_11 : decode cX5_weigh 11 = .ok (.iload_n 1, 1) := by decide +kernel
theorem dX5_weigh_12 : decode cX5_weigh 12 = .ok (.lconst 0, 1) := by decide +kernel
theorem dX5_weigh_13 : decode cX5_weigh 13 = .ok (.lastore, 1) := by decide +kernel
theorem dX5_weigh_14 : decode cX5_weigh 14 = .ok (.aload_n 0, 1) := by decide +kernel
theorem dX5_weigh_15 : decode cX5_weigh 15 = .ok (.getfield 31, 3) := by decide +kernel
theorem dX5_weigh_18 : decode cX5_weigh 18 = .ok (.iload_n 1, 1) := by decide +kernel
theorem dX5_weigh_19 : decode cX5_weigh 19 = .ok (.iaload, 1) := by decide +kernel
theorem dX5_weigh_20 : decode cX5_weigh 20 = .ok (.iconst (-1), 1) := by decide +kernel
theorem dX5_weigh_21 : decode cX5_weigh 21 = .ok (.if_icmp .eq 68, 3) := by decide +kernel
theorem dX5_weigh_24 : decode cX5_weigh 24 = .ok (.aload_n 0, 1) := by decide +kernel
theorem dX5_weigh_25 : decode cX5_weigh 25 = .ok (.getfield 67, 3) := by decide +kernel
theorem dX5_weigh_28 : decode cX5_weigh 28 = .ok (.getfield 120, 3) := by decide +kernel
theorem dX5_weigh_31 : decode cX5_weigh 31 = .ok (.aload_n 0, 1) := by decide +kernel
theorem dX5_weigh_32 : decode cX5_weigh 32 = .ok (.getfield 31, 3) := by decide +kernel
theorem dX5_weigh_35 : decode cX5_weigh 35 = .ok (.iload_n 1, 1) := by decide +kernel
theorem dX5_weigh_36 : decode cX5_weigh 36 = .ok (.iaload, 1) := by decide +kernel
theorem dX5_weigh_37 : decode cX5_weigh 37 = .ok (.aaload, 1) := by decide +kernel
theorem dX5_weigh_38 : decode cX5_weigh 38 = .ok (.astore_n 2, 1) := by decide +kernel
theorem dX5_weigh_39 : decode cX5_weigh 39 = .ok (.aload_n 0, 1) := by decide +kernel
theorem dX5_weigh_40 : decode cX5_weigh 40 = .ok (.getfield 34, 3) := by decide +kernel
theorem dX5_weigh_43 : decode cX5_weigh 43 = .ok (.iload_n 1, 1) := by decide +kernel
theorem dX5_weigh_44 : decode cX5_weigh 44 = .ok (.aload_n 2, 1) := by decide +kernel
theorem dX5_weigh_45 : decode cX5_weigh 45 = .ok (.iconst 3, 1) := by decide +kernel
theorem dX5_weigh_46 : decode cX5_weigh 46 = .ok (.iaload, 1) := by decide +kernel
theorem dX5_weigh_47 : decode cX5_weigh 47 = .ok (.iastore, 1) := by decide +kernel
theorem dX5_weigh_48 : decode cX5_weigh 48 = .ok (.aload_n 0, 1) := by decide +kernel
theorem dX5_weigh_49 : decode cX5_weigh 49 = .ok (.getfield 40, 3) := by decide +kernel
theorem dX5_weigh_52 : decode cX5_weigh 52 = .ok (.iload_n 1, 1) := by decide +kernel
theorem dX5_weigh_53 : decode cX5_weigh 53 = .ok (.aload_n 2, 1) := by decide +kernel
theorem dX5_weigh_54 : decode cX5_weigh 54 = .ok (.iconst 3, 1) := by decide +kernel
theorem dX5_weigh_55 : decode cX5_weigh 55 = .ok (.iaload, 1) := by decide +kernel
theorem dX5_weigh_56 : decode cX5_weigh 56 = .ok (.iconst 2, 1) := by decide +kernel
theorem dX5_weigh_57 : decode cX5_weigh 57 = .ok (.if_icmp .ne 27, 3) := by decide +kernel
theorem dX5_weigh_60 : decode cX5_weigh 60 = .ok (.aload_n 0, 1) := by decide +kernel
theorem dX5_weigh_61 : decode cX5_weigh 61 = .ok (.getfield 67, 3) := by decide +kernel
theorem dX5_weigh_64 : decode cX5_weigh 64 = .ok (.aload_n 0, 1) := by decide +kernel
theorem dX5_weigh_65 : decode cX5_weigh 65 = .ok (.getfield 9, 3) := by decide +kernel
theorem dX5_weigh_68 : decode cX5_weigh 68 = .ok (.invokevirtual 90, 3) := by decide +kernel
theorem dX5_weigh_71 : decode cX5_weigh 71 = .ok (.i2l, 1) := by decide +kernel
theorem dX5_weigh_72 : decode cX5_weigh 72 = .ok (.aload_n 2, 1) := by decide +kernel
theorem dX5_weigh_73 : decode cX5_weigh 73 = .ok (.iconst 4, 1) := by decide +kernel
theorem dX5_weigh_74 : decode cX5_weigh 74 = .ok (.iaload, 1) := by decide +kernel
theorem dX5_weigh_75 : decode cX5_weigh 75 = .ok (.i2l, 1) := by decide +kernel
theorem dX5_weigh_76 : decode cX5_weigh 76 = .ok (.lmul, 1) := by decide +kernel
theorem dX5_weigh_77 : decode cX5_weigh 77 = .ok (.ldc2_w 123, 3) := by decide +kernel
theorem dX5_weigh_80 : decode cX5_weigh 80 = .ok (.ldiv, 1) := by decide +kernel
theorem dX5_weigh_81 : decode cX5_weigh 81 = .ok (.goto 7, 3) := by decide +kernel
theorem dX5_weigh_84 : decode cX5_weigh 84 = .ok (.aload_n 2, 1) := by decide +kernel
theorem dX5_weigh_85 : decode cX5_weigh 85 = .ok (.iconst 4, 1) := by decide +kernel
theorem dX5_weigh_86 : decode cX5_weigh 86 = .ok (.iaload, 1) := by decide +kernel
theorem dX5_weigh_87 : decode cX5_weigh 87 = .ok (.i2l, 1) := by decide +kernel
theorem dX5_weigh_88 : decode cX5_weigh 88 = .ok (.lastore, 1) := by decide +kernel
theorem dX5_weigh_89 : decode cX5_weigh 89 = .ok (.return_, 1) := by decide +kernel
theorem dX5_provisoHolding_0 : decode cX5_provisoHolding 0 = .ok (.iconst 0, 1) := by decide +kernel
theorem dX5_provisoHolding_1 : decode cX5_provisoHolding 1 = .ok (.istore_n 2, 1) := by decide +kernel
theorem dX5_provisoHolding_2 : decode cX5_provisoHolding 2 = .ok (.iload_n 2, 1) := by decide +kernel
theorem dX5_provisoHolding_3 : decode cX5_provisoHolding 3 = .ok (.aload_n 0, 1) := by decide +kernel
theorem dX5_provisoHolding_4 : decode cX5_provisoHolding 4 = .ok (.getfield 67, 3) := by decide +kernel
theorem dX5_provisoHolding_7 : decode cX5_provisoHolding 7 = .ok (.getfield 125, 3) := by decide +kernel
theorem dX5_provisoHolding_10 : decode cX5_provisoHolding 10 = .ok (.if_icmp .ge 45, 3) := by decide +kernel
theorem dX5_provisoHolding_13 : decode cX5_provisoHolding 13 = .ok (.aload_n 0, 1) := by decide +kernel
theorem dX5_provisoHolding_14 : decode cX5_provisoHolding 14 = .ok (.getfield 24, 3) := by decide +kernel
theorem dX5_provisoHolding_17 : decode cX5_provisoHolding 17 = .ok (.bipush (-2), 2) := by decide +kernel
theorem dX5_provisoHolding_19 : decode cX5_provisoHolding 19 = .ok (.if_icmp .eq 36, 3) := by decide +kernel
theorem dX5_provisoHolding_22 : decode cX5_provisoHolding 22 = .ok (.iload_n 2, 1) := by decide +kernel
theorem dX5_provisoHolding_23 : decode cX5_provisoHolding 23 = .ok (.aload_n 0, 1) := by decide +kernel
theorem dX5_provisoHolding_24 : decode cX5_provisoHolding 24 = .ok (.getfield 24, 3) := by decide +kernel
theorem dX5_provisoHolding_27 : decode cX5_provisoHolding 27 = .ok (.if_icmp .eq 22, 3) := by decide +kernel
theorem dX5_provisoHolding_30 : decode cX5_provisoHolding 30 = .ok (.aload_n 0, 1) := by decide +kernel
theorem dX5_provisoHolding_31 : decode cX5_provisoHolding 31 = .ok (.aload_n 0, 1) := by decide +kernel
theorem dX5_provisoHolding_32 : decode cX5_provisoHolding 32 = .ok (.getfield 67, 3) := by decide +kernel
theorem dX5_provisoHolding_35 : decode cX5_provisoHolding 35 = .ok (.getfield 120, 3) := by decide +kernel
theorem dX5_provisoHolding_38 : decode cX5_provisoHolding 38 = .ok (.iload_n 2, 1) := by decide +kernel
theorem dX5_provisoHolding_39 : decode cX5_provisoHolding 39 = .ok (.aaload, 1) := by decide +kernel
theorem dX5_provisoHolding_40 : decode cX5_provisoHolding 40 = .ok (.iload_n 1, 1) := by decide +kernel
theorem dX5_provisoHolding_41 : decode cX5_provisoHolding 41 = .ok (.invokevirtual 128, 3) := by decide +kernel
theorem dX5_provisoHolding_44 : decode cX5_provisoHolding 44 = .ok (.ifCond .eq 5, 3) := by decide +kernel
theorem dX5_provisoHolding_47 : decode cX5_provisoHolding 47 = .ok (.iload_n 2, 1) := by decide +kernel
theorem dX5_provisoHolding_48 : decode cX5_provisoHolding 48 = .ok (.ireturn, 1) := by decide +kernel
theorem dX5_provisoHolding_49 : decode cX5_provisoHolding 49 = .ok (.iinc 2 1, 3) := by decide +kernel
theorem dX5_provisoHolding_52 : decode cX5_provisoHolding 52 = .ok (.goto (-50), 3) := by decide +kernel
theorem dX5_provisoHolding_55 : decode cX5_provisoHolding 55 = .ok (.iconst (-1), 1) := by decide +kernel
theorem dX5_provisoHolding_56 : decode cX5_provisoHolding 56 = .ok (.ireturn, 1) := by decide +kernel
theorem dX5_canHold_0 : decode cX5_canHold 0 = .ok (.aload_n 0, 1) := by decide +kernel
theorem dX5_canHold_1 : decode cX5_canHold 1 = .ok (.getfield 67, 3) := by decide +kernel
theorem dX5_canHold_4 : decode cX5_canHold 4 = .ok (.getfield 132, 3) := by decide +kernel
theorem dX5_canHold_7 : decode cX5_canHold 7 = .ok (.aload_n 0, 1) := by decide +kernel
theorem dX5_canHold_8 : decode cX5_canHold 8 = .ok (.getfield 9, 3) := by decide +kernel
theorem dX5_canHold_11 : decode cX5_canHold 11 = .ok (.aaload, 1) := by decide +kernel
theorem dX5_canHold_12 : decode cX5_canHold 12 = .ok (.iload_n 2, 1) := by decide +kernel
theorem dX5_canHold_13 : decode cX5_canHold 13 = .ok (.iaload, 1) := by decide +kernel
theorem dX5_canHold_14 : decode cX5_canHold 14 = .ok (.istore_n 3, 1) := by decide +kernel
theorem dX5_canHold_15 : decode cX5_canHold 15 = .ok (.aload_n 0, 1) := by decide +kernel
theorem dX5_canHold_16 : decode cX5_canHold 16 = .ok (.getfield 67, 3) := by decide +kernel
theorem dX5_canHold_19 : decode cX5_canHold 19 = .ok (.getfield 132, 3) := by decide +kernel
theorem dX5_canHold_22 : decode cX5_canHold 22 = .ok (.aload_n 0, 1) := by decide +kernel
theorem dX5_canHold_23 : decode cX5_canHold 23 = .ok (.getfield 9, 3) := by decide +kernel
theorem dX5_canHold_26 : decode cX5_canHold 26 = .ok (.aaload, 1) := by decide +kernel
theorem dX5_canHold_27 : decode cX5_canHold 27 = .ok (.iload_n 2, 1) := by decide +kernel
theorem dX5_canHold_28 : decode cX5_canHold 28 = .ok (.iconst 1, 1) := by decide +kernel
theorem dX5_canHold_29 : decode cX5_canHold 29 = .ok (.iadd, 1) := by decide +kernel
theorem dX5_canHold_30 : decode cX5_canHold 30 = .ok (.iaload, 1) := by decide +kernel
theorem dX5_canHold_31 : decode cX5_canHold 31 = .ok (.istore 4, 2) := by decide +kernel
theorem dX5_canHold_33 : decode cX5_canHold 33 = .ok (.aload_n 1, 1) := by decide +kernel
theorem dX5_canHold_34 : decode cX5_canHold 34 = .ok (.iconst 0, 1) := by decide +kernel
theorem dX5_canHold_35 : decode cX5_canHold 35 = .ok (.iaload, 1) := by decide +kernel
theorem dX5_canHold_36 : decode cX5_canHold 36 = .ok (.aload_n 0, 1) := by decide +kernel
theorem dX5_canHold_37 : decode cX5_canHold 37 = .ok (.getfield 27, 3) := by decide +kernel
theorem dX5_canHold_40 : decode cX5_canHold 40 = .ok (.iload_n 2, 1) := by decide +kernel
theorem dX5_canHold_41 : decode cX5_canHold 41 = .ok (.iaload, 1) := by decide +kernel
theorem dX5_canHold_42 : decode cX5_canHold 42 = .ok (.if_icmp .ne 49, 3) := by decide +kernel
theorem dX5_canHold_45 : decode cX5_canHold 45 = .ok (.aload_n 1, 1) := by decide +kernel
theorem dX5_canHold_46 : decode cX5_canHold 46 = .ok (.iconst 1, 1) := by decide +kernel
theorem dX5_canHold_47 : decode cX5_canHold 47 = .ok (.iaload, 1) := by decide +kernel
theorem dX5_canHold_48 : decode cX5_canHold 48 = .ok (.bipush (-2), 2) := by decide +kernel
theorem dX5_canHold_50 : decode cX5_canHold 50 = .ok (.if_icmp .eq 18, 3) := by decide +kernel
theorem dX5_canHold_53 : decode cX5_canHold 53 = .ok (.aload_n 1, 1) := by decide +kernel
theorem dX5_canHold_54 : decode cX5_canHold 54 = .ok (.iconst 1, 1) := by decide +kernel
theorem dX5_canHold_55 : decode cX5_canHold 55 = .ok (.iaload, 1) := by decide +kernel
theorem dX5_canHold_56 : decode cX5_canHold 56 = .ok (.aload_n 1, 1) := by decide +kernel
theorem dX5_canHold_57 : decode cX5_canHold 57 = .ok (.iconst 2, 1) := by decide +kernel
theorem dX5_canHold_58 : decode cX5_canHold 58 = .ok (.iaload, 1) := by decide +kernel
theorem dX5_canHold_59 : decode cX5_canHold 59 = .ok (.iload_n 3, 1) := by decide +kernel
theorem dX5_canHold_60 : decode cX5_canHold 60 = .ok (.iload 4, 2) := by decide +kernel
theorem dX5_canHold_62 : decode cX5_canHold 62 = .ok (.invokestatic 135, 3) := by decide +kernel
theorem dX5_canHold_65 : decode cX5_canHold 65 = .ok (.ifCond .eq 26, 3) := by decide +kernel
theorem dX5_canHold_68 : decode cX5_canHold 68 = .ok (.aload_n 1, 1) := by decide +kernel
theorem dX5_canHold_69 : decode cX5_canHold 69 = .ok (.iconst 5, 1) := by decide +kernel
theorem dX5_canHold_70 : decode cX5_canHold 70 = .ok (.iaload, 1) := by decide +kernel
theorem dX5_canHold_71 : decode cX5_canHold 71 = .ok (.bipush (-2), 2) := by decide +kernel
theorem dX5_canHold_73 : decode cX5_canHold 73 = .ok (.if_icmp .eq 14, 3) := by decide +kernel
theorem dX5_canHold_76 : decode cX5_canHold 76 = .ok (.aload_n 0, 1) := by decide +kernel
theorem dX5_canHold_77 : decode cX5_canHold 77 = .ok (.aload_n 1, 1) := by decide +kernel
theorem dX5_canHold_78 : decode cX5_canHold 78 = .ok (.iconst 5, 1) := by decide +kernel
theorem dX5_canHold_79 : decode cX5_canHold 79 = .ok (.iaload, 1) := by decide +kernel
theorem dX5_canHold_80 : decode cX5_canHold 80 = .ok (.iload_n 2, 1) := by decide +kernel
theorem dX5_canHold_81 : decode cX5_canHold 81 = .ok (.invokevirtual 139, 3) := by decide +kernel
theorem dX5_canHold_84 : decode cX5_canHold 84 = .ok (.ifCond .eq 7, 3) := by decide +kernel
theorem dX5_canHold_87 : decode cX5_canHold 87 = .ok (.iconst 1, 1) := by decide +kernel
theorem dX5_canHold_88 : decode cX5_canHold 88 = .ok (.goto 4, 3) := by decide +kernel
theorem dX5_canHold_91 : decode cX5_canHold 91 = .ok (.iconst 0, 1) := by decide +kernel
theorem dX5_canHold_92 : decode cX5_canHold 92 = .ok (.ireturn, 1) := by decide +kernel
theorem dX5_isOnAnother_0 : decode cX5_isOnAnother 0 = .ok (.iconst 0, 1) := by decide +kernel
theorem dX5_isOnAnother_1 : decode cX5_isOnAnother 1 = .ok (.istore_n 3, 1) := by decide +kernel
theorem dX5_isOnAnother_2 : decode cX5_isOnAnother 2 = .ok (.iload_n 3, 1) := by decide +kernel
theorem dX5_isOnAnother_3 : decode cX5_isOnAnother 3 = .ok (.aload_n 0, 1) := by decide +kernel
theorem dX5_isOnAnother_4 : decode cX5_isOnAnother 4 = .ok (.getfield 15, 3) := by decide +kernel
theorem dX5_isOnAnother_7 : decode cX5_isOnAnother 7 = .ok (.if_icmp .ge 26, 3) := by decide +kernel
theorem dX5_isOnAnother_10 : decode cX5_isOnAnother 10 = .ok (.iload_n 3, 1) := by decide +kernel
theorem dX5_isOnAnother_11 : decode cX5_isOnAnother 11 = .ok (.iload_n 2, 1) := by decide +kernel
theorem dX5_isOnAnother_12 : decode cX5_isOnAnother 12 = .ok (.if_icmp .eq 15, 3) := by decide +kernel
theorem dX5_isOnAnother_15 : decode cX5_isOnAnother 15 = .ok (.aload_n 0, 1) := by decide +kernel
theorem dX5_isOnAnother_16 : decode cX5_isOnAnother 16 = .ok (.getfield 27, 3) := by decide +kernel
theorem dX5_isOnAnother_19 : decode cX5_isOnAnother 19 = .ok (.iload_n 3, 1) := by decide +kernel
theorem dX5_isOnAnother_20 : decode cX5_isOnAnother 20 = .ok (.iaload, 1) := by decide +kernel
theorem dX5_isOnAnother_21 : decode cX5_isOnAnother 21 = .ok (.iload_n 1, 1) := by decide +kernel
theorem dX5_isOnAnother_22 : decode cX5_isOnAnother 22 = .ok (.if_icmp .ne 5, 3) := by decide +kernel
theorem dX5_isOnAnother_25 : decode cX5_isOnAnother 25 = .ok (.iconst 1, 1) := by decide +kernel
theorem dX5_isOnAnother_26 : decode cX5_isOnAnother 26 = .ok (.ireturn, 1) := by decide +kernel
theorem dX5_isOnAnother_27 : decode cX5_isOnAnother 27 = .ok (.iinc 3 1, 3) := by decide +kernel
theorem dX5_isOnAnother_30 : decode cX5_isOnAnother 30 = .ok (.goto (-28), 3) := by decide +kernel
theorem dX5_isOnAnother_33 : decode cX5_isOnAnother 33 = .ok (.iconst 0, 1) := by decide +kernel
theorem dX5_isOnAnother_34 : decode cX5_isOnAnother 34 = .ok (.ireturn, 1) := by decide +kernel
theorem dX5_factorOf_0 : decode cX5_factorOf 0 = .ok (.aload_n 0, 1) := by decide +kernel
theorem dX5_factorOf_1 : decode cX5_factorOf 1 = .ok (.getfield 67, 3) := by decide +kernel
theorem dX5_factorOf_4 : decode cX5_factorOf 4 = .ok (.aload_n 0, 1) := by decide +kernel
theorem dX5_factorOf_5 : decode cX5_factorOf 5 = .ok (.getfield 9, 3) := by decide +kernel
theorem dX5_factorOf_8 : decode cX5_factorOf 8 = .ok (.iload_n 1, 1) := by decide +kernel
theorem dX5_factorOf_9 : decode cX5_factorOf 9 = .ok (.invokevirtual 143, 3) := by decide +kernel
theorem dX5_factorOf_12 : decode cX5_factorOf 12 = .ok (.istore_n 2, 1) := by decide +kernel
theorem dX5_factorOf_13 : decode cX5_factorOf 13 = .ok (.aload_n 0, 1) := by decide +kernel
theorem dX5_factorOf_14 : decode cX5_factorOf 14 = .ok (.getfield 21, 3) := by decide +kernel
theorem dX5_factorOf_17 : decode cX5_factorOf 17 = .ok (.ifCond .ne 16, 3) := by decide +kernel
theorem dX5_factorOf_20 : decode cX5_factorOf 20 = .ok (.iload_n 2, 1) := by decide +kernel
theorem dX5_factorOf_21 : decode cX5_factorOf 21 = .ok (.i2l, 1) := by decide +kernel
theorem dX5_factorOf_22 : decode cX5_factorOf 22 = .ok (.aload_n 0, 1) := by decide +kernel
theorem dX5_factorOf_23 : decode cX5_factorOf 23 = .ok (.getfield 67, 3) := by decide +kernel
theorem dX5_factorOf_26 : decode cX5_factorOf 26 = .ok (.iload_n 2, 1) := by decide +kernel
theorem dX5_factorOf_27 : decode cX5_factorOf 27 = .ok (.invokevirtual 147, 3) := by decide +kernel
theorem dX5_factorOf_30 : decode cX5_factorOf 30 = .ok (.i2l, 1) := by decide +kernel
theorem dX5_factorOf_31 : decode cX5_factorOf 31 = .ok (.lmul, 1) := by decide +kernel
theorem dX5_factorOf_32 : decode cX5_factorOf 32 = .ok (.lreturn, 1) := by decide +kernel
theorem dX5_factorOf_33 : decode cX5_factorOf 33 = .ok (.aload_n 0, 1) := by decide +kernel
theorem dX5_factorOf_34 : decode cX5_factorOf 34 = .ok (.getfield 67, 3) := by decide +kernel
theorem dX5_factorOf_37 : decode cX5_factorOf 37 = .ok (.aload_n 0, 1) := by decide +kernel
theorem dX5_factorOf_38 : decode cX5_factorOf 38 = .ok (.getfield 27, 3) := by decide +kernel
theorem dX5_factorOf_41 : decode cX5_factorOf 41 = .ok (.iload_n 1, 1) := by decide +kernel
theorem dX5_factorOf_42 : decode cX5_factorOf 42 = .ok (.iaload, 1) := by decide +kernel
theorem dX5_factorOf_43 : decode cX5_factorOf 43 = .ok (.aload_n 0, 1) := by decide +kernel
theorem dX5_factorOf_44 : decode cX5_factorOf 44 = .ok (.getfield 67, 3) := by decide +kernel
theorem dX5_factorOf_47 : decode cX5_factorOf 47 = .ok (.getfield 132, 3) := by decide +kernel
theorem dX5_factorOf_50 : decode cX5_factorOf 50 = .ok (.aload_n 0, 1) := by decide +kernel
theorem dX5_factorOf_51 : decode cX5_factorOf 51 = .ok (.getfield 9, 3) := by decide +kernel
theorem dX5_factorOf_54 : decode cX5_factorOf 54 = .ok (.aaload, 1) := by decide +kernel
theorem dX5_factorOf_55 : decode cX5_factorOf 55 = .ok (.iload_n 1, 1) := by decide +kernel
theorem dX5_factorOf_56 : decode cX5_factorOf 56 = .ok (.iaload, 1) := by decide +kernel
theorem dX5_factorOf_57 : decode cX5_factorOf 57 = .ok (.aload_n 0, 1) := by decide +kernel
theorem dX5_factorOf_58 : decode cX5_factorOf 58 = .ok (.getfield 67, 3) := by decide +kernel
theorem dX5_factorOf_61 : decode cX5_factorOf 61 = .ok (.getfield 132, 3) := by decide +kernel
theorem dX5_factorOf_64 : decode cX5_factorOf 64 = .ok (.aload_n 0, 1) := by decide +kernel
theorem dX5_factorOf_65 : decode cX5_factorOf 65 = .ok (.getfield 9, 3) := by decide +kernel
theorem dX5_factorOf_68 : decode cX5_factorOf 68 = .ok (.aaload, 1) := by decide +kernel
theorem dX5_factorOf_69 : decode cX5_factorOf 69 = .ok (.iload_n 1, 1) := by decide +kernel
theorem dX5_factorOf_70 : decode cX5_factorOf 70 = .ok (.iconst 1, 1) := by decide +kernel
theorem dX5_factorOf_71 : decode cX5_factorOf 71 = .ok (.iadd, 1) := by decide +kernel
theorem dX5_factorOf_72 : decode cX5_factorOf 72 = .ok (.iaload, 1) := by decide +kernel
theorem dX5_factorOf_73 : decode cX5_factorOf 73 = .ok (.invokevirtual 150, 3) := by decide +kernel
theorem dX5_factorOf_76 : decode cX5_factorOf 76 = .ok (.istore_n 3, 1) := by decide +kernel
theorem dX5_factorOf_77 : decode cX5_factorOf 77 = .ok (.iload_n 3, 1) := by decide +kernel
theorem dX5_factorOf_78 : decode cX5_factorOf 78 = .ok (.iconst (-1), 1) := by decide +kernel
theorem dX5_factorOf_79 : decode cX5_factorOf 79 = .ok (.if_icmp .eq 8, 3) := by decide +kernel
theorem dX5_factorOf_82 : decode cX5_factorOf 82 = .ok (.iload_n 3, 1) := by decide +kernel
theorem dX5_factorOf_83 : decode cX5_factorOf 83 = .ok (.i2l, 1) := by decide +kernel
theorem dX5_factorOf_84 : decode cX5_factorOf 84 = .ok (.goto 14, 3) := by decide +kernel
theorem dX5_factorOf_87 : decode cX5_factorOf 87 = .ok (.iload_n 2, 1) := by decide +kernel
theorem dX5_factorOf_88 : decode cX5_factorOf 88 = .ok (.i2l, 1) := by decide +kernel
theorem dX5_factorOf_89 : decode cX5_factorOf 89 = .ok (.aload_n 0, 1) := by decide +kernel
theorem dX5_factorOf_90 : decode cX5_factorOf 90 = .ok (.getfield 67, 3) := by decide +kernel
theorem dX5_factorOf_93 : decode cX5_factorOf 93 = .ok (.getfield 154, 3) := by decide +kernel
theorem dX5_factorOf_96 : decode cX5_factorOf 96 = .ok (.i2l, 1) := by decide +kernel
theorem dX5_factorOf_97 : decode cX5_factorOf 97 = .ok (.lmul, 1) := by decide +kernel
theorem dX5_factorOf_98 : decode cX5_factorOf 98 = .ok (.lreturn, 1) := by decide +kernel
theorem dX5_settleFixed_0 : decode cX5_settleFixed 0 = .ok (.lconst 0, 1) := by decide +kernel
theorem dX5_settleFixed_1 : decode cX5_settleFixed 1 = .ok (.lstore_n 1, 1) := by decide +kernel
theorem dX5_settleFixed_2 : decode cX5_settleFixed 2 = .ok (.iconst 0, 1) := by decide +kernel
theorem dX5_settleFixed_3 : decode cX5_settleFixed 3 = .ok (.istore_n 3, 1) := by decide +kernel
theorem dX5_settleFixed_4 : decode cX5_settleFixed 4 = .ok (.aload_n 0, 1) := by decide +kernel
theorem dX5_settleFixed_5 : decode cX5_settleFixed 5 = .ok (.getfield 18, 3) := by decide +kernel
theorem dX5_settleFixed_8 : decode cX5_settleFixed 8 = .ok (.istore 4, 2) := by decide +kernel
theorem dX5_settleFixed_10 : decode cX5_settleFixed 10 = .ok (.iload 4, 2) := by decide +kernel
theorem dX5_settleFixed_12 : decode cX5_settleFixed 12 = .ok (.aload_n 0, 1) := by decide +kernel
theorem dX5_settleFixed_13 : decode cX5_settleFixed 13 = .ok (.getfield 15, 3) := by decide +kernel
theorem dX5_settleFixed_16 : decode cX5_settleFixed 16 = .ok (.if_icmp .ge 82, 3) := by decide +kernel
theorem dX5_settleFixed_19 : decode cX5_settleFixed 19 = .ok (.aload_n 0, 1) := by decide +kernel
theorem dX5_settleFixed_20 : decode cX5_settleFixed 20 = .ok (.getfield 53, 3) := by decide +kernel
theorem dX5_settleFixed_23 : decode cX5_settleFixed 23 = .ok (.iload 4, 2) := by decide +kernel
theorem dX5_settleFixed_25 : decode cX5_settleFixed 25 = .ok (.aload_n 0, 1) := by decide +kernel
theorem dX5_settleFixed_26 : decode cX5_settleFixed 26 = .ok (.getfield 34, 3) := by decide +kernel
theorem dX5_settleFixed_29 : decode cX5_settleFixed 29 = .ok (.iload 4, 2) := by decide +kernel
theorem dX5_settleFixed_31 : decode cX5_settleFixed 31 = .ok (.iaload, 1) := by decide +kernel
theorem dX5_settleFixed_32 : decode cX5_settleFixed 32 = .ok (.iconst 1, 1) := by decide +kernel
theorem dX5_settleFixed_33 : decode cX5_settleFixed 33 = .ok (.if_icmp .eq 14, 3) := by decide +kernel
theorem dX5_settleFixed_36 : decode cX5_settleFixed 36 = .ok (.aload_n 0, 1) := by decide +kernel
theorem dX5_settleFixed_37 : decode cX5_settleFixed 37 = .ok (.getfield 34, 3) := by decide +kernel
theorem dX5_settleFixed_40 : decode cX5_settleFixed 40 = .ok (.iload 4, 2) := by decide +kernel
theorem dX5_settleFixed_42 : decode cX5_settleFixed 42 = .ok (.iaload, 1) := by decide +kernel
theorem dX5_settleFixed_43 : decode cX5_settleFixed 43 = .ok (.iconst 2, 1) := by decide +kernel
theorem dX5_settleFixed_44 : decode cX5_settleFixed 44 = .ok (.if_icmp .ne 7, 3) := by decide +kernel
theorem dX5_settleFixed_47 : decode cX5_settleFixed 47 = .ok (.iconst 1, 1) := by decide +kernel
theorem dX5_settleFixed_48 : decode cX5_settleFixed 48 = .ok (.goto 4, 3) := by decide +kernel
theorem dX5_settleFixed_51 : decode cX5_settleFixed 51 = .ok (.iconst 0, 1) := by decide +kernel
theorem dX5_settleFixed_52 : decode cX5_settleFixed 52 = .ok (.bastore, 1) := by decide +kernel
theorem dX5_settleFixed_53 : decode cX5_settleFixed 53 = .ok (.aload_n 0, 1) := by decide +kernel
theorem dX5_settleFixed_54 : decode cX5_settleFixed 54 = .ok (.getfield 53, 3) := by decide +kernel
theorem dX5_settleFixed_57 : decode cX5_settleFixed 57 = .ok (.iload 4, 2) := by decide +kernel
theorem dX5_settleFixed_59 : decode cX5_settleFixed 59 = .ok (.baload, 1) := by decide +kernel
theorem dX5_settleFixed_60 : decode cX5_settleFixed 60 = .ok (.ifCond .eq 30, 3) := by decide +kernel
theorem dX5_settleFixed_63 : decode cX5_settleFixed 63 = .ok (.aload_n 0, 1) := by decide +kernel
theorem dX5_settleFixed_64 : decode cX5_settleFixed 64 = .ok (.getfield 37, 3) := by decide +kernel
theorem dX5_settleFixed_67 : decode cX5_settleFixed 67 = .ok (.iload 4, 2) := by decide +kernel
theorem dX5_settleFixed_69 : decode cX5_settleFixed 69 = .ok (.aload_n 0, 1) := by decide +kernel
theorem dX5_settleFixed_70 : decode cX5_settleFixed 70 = .ok (.getfield 34, 3) := by decide +kernel
theorem dX5_settleFixed_73 : decode cX5_settleFixed 73 = .ok (.iload 4, 2) := by decide +kernel
theorem dX5_settleFixed_75 : decode cX5_settleFixed 75 = .ok (.iaload, 1) := by decide +kernel
theorem dX5_settleFixed_76 : decode cX5_settleFixed 76 = .ok (.iastore, 1) := by decide +kernel
theorem dX5_settleFixed_77 : decode cX5_settleFixed 77 = .ok (.lload_n 1, 1) := by decide +kernel
theorem dX5_settleFixed_78 : decode cX5_settleFixed 78 = .ok (.aload_n 0, 1) := by decide +kernel
theorem dX5_settleFixed_79 : decode cX5_settleFixed 79 = .ok (.getfield 40, 3) := by decide +kernel
theorem dX5_settleFixed_82 : decode cX5_settleFixed 82 = .ok (.iload 4, 2) := by decide +kernel
theorem dX5_settleFixed_84 : decode cX5_settleFixed 84 = .ok (.laload, 1) := by decide +kernel
theorem dX5_settleFixed_85 : decode cX5_settleFixed 85 = .ok (.ladd, 1) := by decide +kernel
theorem dX5_settleFixed_86 : decode cX5_settleFixed 86 = .ok (.lstore_n 1, 1) := by decide +kernel
theorem dX5_settleFixed_87 : decode cX5_settleFixed 87 = .ok (.goto 5, 3) := by decide +kernel
theorem dX5_settleFixed_90 : decode cX5_settleFixed 90 = .ok (.iconst 1, 1) := by decide +kernel
theorem dX5_settleFixed_91 : decode cX5_settleFixed 91 = .ok (.istore_n 3, 1) := by decide +kernel
theorem dX5_settleFixed_92 : decode cX5_settleFixed 92 = .ok (.iinc 4 1, 3) := by decide +kernel
theorem dX5_settleFixed_95 : decode cX5_settleFixed 95 = .ok (.goto (-85), 3) := by decide +kernel
theorem dX5_settleFixed_98 : decode cX5_settleFixed 98 = .ok (.lload_n 1, 1) := by decide +kernel
theorem dX5_settleFixed_99 : decode cX5_settleFixed 99 = .ok (.aload_n 0, 1) := by decide +kernel
theorem dX5_settleFixed_100 : decode cX5_settleFixed 100 = .ok (.getfield 57, 3) := by decide +kernel
theorem dX5_settleFixed_103 : decode cX5_settleFixed 103 = .ok (.lcmp, 1) := by decide +kernel
theorem dX5_settleFixed_104 : decode cX5_settleFixed 104 = .ok (.ifCond .le 13, 3) := by decide +kernel
theorem dX5_settleFixed_107 : decode cX5_settleFixed 107 = .ok (.aload_n 0, 1) := by decide +kernel
theorem dX5_settleFixed_108 : decode cX5_settleFixed 108 = .ok (.aload_n 0, 1) := by decide +kernel
theorem dX5_settleFixed_109 : decode cX5_settleFixed 109 = .ok (.getfield 40, 3) := by decide +kernel
theorem dX5_settleFixed_112 : decode cX5_settleFixed 112 = .ok (.invokevirtual 157, 3) := by decide +kernel
theorem dX5_settleFixed_115 : decode cX5_settleFixed 115 = .ok (.iconst 1, 1) := by decide +kernel
theorem dX5_settleFixed_116 : decode cX5_settleFixed 116 = .ok (.ireturn, 1) := by decide +kernel
theorem dX5_settleFixed_117 : decode cX5_settleFixed 117 = .ok (.aload_n 0, 1) := by decide +kernel
theorem dX5_settleFixed_118 : decode cX5_settleFixed 118 = .ok (.lload_n 1, 1) := by decide +kernel
theorem dX5_settleFixed_119 : decode cX5_settleFixed 119 = .ok (.invokevirtual 161, 3) := by decide +kernel
theorem dX5_settleFixed_122 : decode cX5_settleFixed 122 = .ok (.iload_n 3, 1) := by decide +kernel
theorem dX5_settleFixed_123 : decode cX5_settleFixed 123 = .ok (.ifCond .ne 11, 3) := by decide +kernel
theorem dX5_settleFixed_126 : decode cX5_settleFixed 126 = .ok (.aload_n 0, 1) := by decide +kernel
theorem dX5_settleFixed_127 : decode cX5_settleFixed 127 = .ok (.aload_n 0, 1) := by decide +kernel
theorem dX5_settleFixed_128 : decode cX5_settleFixed 128 = .ok (.getfield 44, 3) := by decide +kernel
theorem dX5_settleFixed_131 : decode cX5_settleFixed 131 = .ok (.invokevirtual 157, 3) := by decide +kernel
theorem dX5_settleFixed_134 : decode cX5_settleFixed 134 = .ok (.iload_n 3, 1) := by decide +kernel
theorem dX5_settleFixed_135 : decode cX5_settleFixed 135 = .ok (.ifCond .ne 7, 3) := by decide +kernel
theorem dX5_settleFixed_138 : decode cX5_settleFixed 138 = .ok (.iconst 1, 1) := by decide +kernel
theorem dX5_settleFixed_139 : decode cX5_settleFixed 139 = .ok (.goto 4, 3) := by decide +kernel
theorem dX5_settleFixed_142 : decode cX5_settleFixed 142 = .ok (.iconst 0, 1) := by decide +kernel
theorem dX5_settleFixed_143 : decode cX5_settleFixed 143 = .ok (.ireturn, 1) := by decide +kernel
theorem dX5_raiseToLeasts_0 : decode cX5_raiseToLeasts 0 = .ok (.iconst 0, 1) := by decide +kernel
theorem dX5_raiseToLeasts_1 : decode cX5_raiseToLeasts 1 = .ok (.istore_n 1, 1) := by decide +kernel
theorem dX5_raiseToLeasts_2 : decode cX5_raiseToLeasts 2 = .ok (.iload_n 1, 1) := by decide +kernel
theorem dX5_raiseToLeasts_3 : decode cX5_raiseToLeasts 3 = .ok (.bipush 8, 2) := by decide +kernel
theorem dX5_raiseToLeasts_5 : decode cX5_raiseToLeasts 5 = .ok (.if_icmp .ge 57, 3) := by decide +kernel
theorem dX5_raiseToLeasts_8 : decode cX5_raiseToLeasts 8 = .ok (.aload_n 0, 1) := by decide +kernel
theorem dX5_raiseToLeasts_9 : decode cX5_raiseToLeasts 9 = .ok (.iconst 3, 1) := by decide +kernel
theorem dX5_raiseToLeasts_10 : decode cX5_raiseToLeasts 10 = .ok (.invokevirtual 165, 3) := by decide +kernel
theorem dX5_raiseToLeasts_13 : decode cX5_raiseToLeasts 13 = .ok (.lstore_n 2, 1) := by decide +kernel
theorem dX5_raiseToLeasts_14 : decode cX5_raiseToLeasts 14 = .ok (.lload_n 2, 1) := by decide +kernel
theorem dX5_raiseToLeasts_15 : decode cX5_raiseToLeasts 15 = .ok (.lconst 0, 1) := by decide +kernel
theorem dX5_raiseToLeasts_16 : decode cX5_raiseToLeasts 16 = .ok (.lcmp, 1) := by decide +kernel
theorem dX5_raiseToLeasts_17 : decode cX5_raiseToLeasts 17 = .ok (.ifCond .ne 5, 3) := by decide +kernel
theorem dX5_raiseToLeasts_20 : decode cX5_raiseToLeasts 20 = .ok (.iconst 0, 1) := by decide +kernel
theorem dX5_raiseToLeasts_21 : decode cX5_raiseToLeasts 21 = .ok (.ireturn, 1) := by decide +kernel
theorem dX5_raiseToLeasts_22 : decode cX5_raiseToLeasts 22 = .ok (.aload_n 0, 1) := by decide +kernel
theorem dX5_raiseToLeasts_23 : decode cX5_raiseToLeasts 23 = .ok (.dup, 1) := by decide +kernel
theorem dX5_raiseToLeasts_24 : decode cX5_raiseToLeasts 24 = .ok (.getfield 61, 3) := by decide +kernel
theorem dX5_raiseToLeasts_27 : decode cX5_raiseToLeasts 27 = .ok (.iconst 1, 1) := by decide +kernel
theorem dX5_raiseToLeasts_28 : decode cX5_raiseToLeasts 28 = .ok (.iadd, 1) := by decide +kernel
theorem dX5_raiseToLeasts_29 : decode cX5_raiseToLeasts 29 = .ok (.putfield 61, 3) := by decide +kernel
theorem dX5_raiseToLeasts_32 : decode cX5_raiseToLeasts 32 = .ok (.lload_n 2, 1) := by decide +kernel
theorem dX5_raiseToLeasts_33 : decode cX5_raiseToLeasts 33 = .ok (.aload_n 0, 1) := by decide +kernel
theorem dX5_raiseToLeasts_34 : decode cX5_raiseToLeasts 34 = .ok (.getfield 57, 3) := by decide +kernel
theorem dX5_raiseToLeasts_37 : decode cX5_raiseToLeasts 37 = .ok (.lcmp, 1) := by decide +kernel
theorem dX5_raiseToLeasts_38 : decode cX5_raiseToLeasts 38 = .ok (.ifCond .le 13, 3) := by decide +kernel
theorem dX5_raiseToLeasts_41 : decode cX5_raiseToLeasts 41 = .ok (.aload_n 0, 1) := by decide +kernel
theorem dX5_raiseToLeasts_42 : decode cX5_raiseToLeasts 42 = .ok (.aload_n 0, 1) := by decide +kernel
theorem dX5_raiseToLeasts_43 : decode cX5_raiseToLeasts 43 = .ok (.getfield 40, 3) := by decide +kernel
theorem dX5_raiseToLeasts_46 : decode cX5_raiseToLeasts 46 = .ok (.invokevirtual 157, 3) := by decide +kernel
theorem dX5_raiseToLeasts_49 : decode cX5_raiseToLeasts 49 = .ok (.iconst 1, 1) := by decide +kernel
theorem dX5_raiseToLeasts_50 : decode cX5_raiseToLeasts 50 = .ok (.ireturn, 1) := by decide +kernel
theorem dX5_raiseToLeasts_51 : decode cX5_raiseToLeasts 51 = .ok (.aload_n 0, 1) := by decide +kernel
theorem dX5_raiseToLeasts_52 : decode cX5_raiseToLeasts 52 = .ok (.lload_n 2, 1) := by decide +kernel
theorem dX5_raiseToLeasts_53 : decode cX5_raiseToLeasts 53 = .ok (.invokevirtual 161, 3) := by decide +kernel
theorem dX5_raiseToLeasts_56 : decode cX5_raiseToLeasts 56 = .ok (.iinc 1 1, 3) := by decide +kernel
theorem dX5_raiseToLeasts_59 : decode cX5_raiseToLeasts 59 = .ok (.goto (-57), 3) := by decide +kernel
theorem dX5_raiseToLeasts_62 : decode cX5_raiseToLeasts 62 = .ok (.iconst 0, 1) := by decide +kernel
theorem dX5_raiseToLeasts_63 : decode cX5_raiseToLeasts 63 = .ok (.ireturn, 1) := by decide +kernel
theorem dX5_lowerToMosts_0 : decode cX5_lowerToMosts 0 = .ok (.iconst 0, 1) := by decide +kernel
theorem dX5_lowerToMosts_1 : decode cX5_lowerToMosts 1 = .ok (.istore_n 1, 1) := by decide +kernel
theorem dX5_lowerToMosts_2 : decode cX5_lowerToMosts 2 = .ok (.iload_n 1, 1) := by decide +kernel
theorem dX5_lowerToMosts_3 : decode cX5_lowerToMosts 3 = .ok (.bipush 8, 2) := by decide +kernel
theorem dX5_lowerToMosts_5 : decode cX5_lowerToMosts 5 = .ok (.if_icmp .ge 54, 3) := by decide +kernel
theorem dX5_lowerToMosts_8 : decode cX5_lowerToMosts 8 = .ok (.aload_n 0, 1) := by decide +kernel
theorem dX5_lowerToMosts_9 : decode cX5_lowerToMosts 9 = .ok (.iconst 4, 1) := by decide +kernel
theorem dX5_lowerToMosts_10 : decode cX5_lowerToMosts 10 = .ok (.invokevirtual 165, 3) := by decide +kernel
theorem dX5_lowerToMosts_13 : decode cX5_lowerToMosts 13 = .ok (.lstore_n 2, 1) := by decide +kernel
theorem dX5_lowerToMosts_14 : decode cX5_lowerToMosts 14 = .ok (.lload_n 2, 1) := by decide +kernel
theorem dX5_lowerToMosts_15 : decode cX5_lowerToMosts 15 = .ok (.lconst 0, 1) := by decide +kernel
theorem dX5_lowerToMosts_16 : decode cX5_lowerToMosts 16 = .ok (.lcmp, 1) := by decide +kernel
theorem dX5_lowerToMosts_17 : decode cX5_lowerToMosts 17 = .ok (.ifCond .ne 5, 3) := by decide +kernel
theorem dX5_lowerToMosts_20 : decode cX5_lowerToMosts 20 = .ok (.iconst 0, 1) := by decide +kernel
theorem dX5_lowerToMosts_21 : decode cX5_lowerToMosts 21 = .ok (.ireturn, 1) := by decide +kernel
theorem dX5_lowerToMosts_22 : decode cX5_lowerToMosts 22 = .ok (.aload_n 0, 1) := by decide +kernel
theorem dX5_lowerToMosts_23 : decode cX5_lowerToMosts 23 = .ok (.dup, 1) := by decide +kernel
theorem dX5_lowerToMosts_24 : decode cX5_lowerToMosts 24 = .ok (.getfield 61, 3) := by decide +kernel
theorem dX5_lowerToMosts_27 : decode cX5_lowerToMosts 27 = .ok (.iconst 1, 1) := by decide +kernel
theorem dX5_lowerToMosts_28 : decode cX5_lowerToMosts 28 = .ok (.iadd, 1) := by decide +kernel
theorem dX5_lowerToMosts_29 : decode cX5_lowerToMosts 29 = .ok (.putfield 61, 3) := by decide +kernel
theorem dX5_lowerToMosts_32 : decode cX5_lowerToMosts 32 = .ok (.aload_n 0, 1) := by decide +kernel
theorem dX5_lowerToMosts_33 : decode cX5_lowerToMosts 33 = .ok (.lload_n 2, 1) := by decide +kernel
theorem dX5_lowerToMosts_34 : decode cX5_lowerToMosts 34 = .ok (.invokevirtual 161, 3) := by decide +kernel
theorem dX5_lowerToMosts_37 : decode cX5_lowerToMosts 37 = .ok (.aload_n 0, 1) := by decide +kernel
theorem dX5_lowerToMosts_38 : decode cX5_lowerToMosts 38 = .ok (.invokevirtual 168, 3) := by decide +kernel
theorem dX5_lowerToMosts_41 : decode cX5_lowerToMosts 41 = .ok (.lconst 0, 1) := by decide +kernel
theorem dX5_lowerToMosts_42 : decode cX5_lowerToMosts 42 = .ok (.lcmp, 1) := by decide +kernel
theorem dX5_lowerToMosts_43 : decode cX5_lowerToMosts 43 = .ok (.ifCond .ne 10, 3) := by decide +kernel
theorem dX5_lowerToMosts_46 : decode cX5_lowerToMosts 46 = .ok (.aload_n 0, 1) := by decide +kernel
theorem dX5_lowerToMosts_47 : decode cX5_lowerToMosts 47 = .ok (.iconst 4, 1) := by decide +kernel
theorem dX5_lowerToMosts_48 : decode cX5_lowerToMosts 48 = .ok (.invokevirtual 114, 3) := by decide +kernel
theorem dX5_lowerToMosts_51 : decode cX5_lowerToMosts 51 = .ok (.iconst 1, 1) := by decide +kernel
theorem dX5_lowerToMosts_52 : decode cX5_lowerToMosts 52 = .ok (.ireturn, 1) := by decide +kernel
theorem dX5_lowerToMosts_53 : decode cX5_lowerToMosts 53 = .ok (.iinc 1 1, 3) := by decide +kernel
theorem dX5_lowerToMosts_56 : decode cX5_lowerToMosts 56 = .ok (.goto (-54), 3) := by decide +kernel
theorem dX5_lowerToMosts_59 : decode cX5_lowerToMosts 59 = .ok (.iconst 0, 1) := by decide +kernel
theorem dX5_lowerToMosts_60 : decode cX5_lowerToMosts 60 = .ok (.ireturn, 1) := by decide +kernel
theorem dX5_openFactors_0 : decode cX5_openFactors 0 = .ok (.lconst 0, 1) := by decide +kernel
theorem dX5_openFactors_1 : decode cX5_openFactors 1 = .ok (.lstore_n 1, 1) := by decide +kernel
theorem dX5_openFactors_2 : decode cX5_openFactors 2 = .ok (.aload_n 0, 1) := by decide +kernel
theorem dX5_openFactors_3 : decode cX5_openFactors 3 = .ok (.getfield 18, 3) := by decide +kernel
theorem dX5_openFactors_6 : decode cX5_openFactors 6 = .ok (.istore_n 3, 1) := by decide +kernel
theorem dX5_openFactors_7 : decode cX5_openFactors 7 = .ok (.iload_n 3, 1) := by decide +kernel
theorem dX5_openFactors_8 : decode cX5_openFactors 8 = .ok (.aload_n 0, 1) := by decide +kernel
theorem dX5_openFactors_9 : decode cX5_openFactors 9 = .ok (.getfield 15, 3) := by decide +kernel
theorem dX5_openFactors_12 : decode cX5_openFactors 12 = .ok (.if_icmp .ge 31, 3) := by decide +kernel
theorem dX5_openFactors_15 : decode cX5_openFactors 15 = .ok (.lload_n 1, 1) := by decide +kernel
theorem dX5_openFactors_16 : decode cX5_openFactors 16 = .ok (.aload_n 0, 1) := by decide +kernel
theorem dX5_openFactors_17 : decode cX5_openFactors 17 = .ok (.getfield 37, 3) := by decide +kernel
theorem dX5_openFactors_20 : decode cX5_openFactors 20 = .ok (.iload_n 3, 1) := by decide +kernel
theorem dX5_openFactors_21 : decode cX5_openFactors 21 = .ok (.iaload, 1) := by decide +kernel
theorem dX5_openFactors_22 : decode cX5_openFactors 22 = .ok (.ifCond .ne 12, 3) := by decide +kernel
theorem dX5_openFactors_25 : decode cX5_openFactors 25 = .ok (.aload_n 0, 1) := by decide +kernel
theorem dX5_openFactors_26 : decode cX5_openFactors 26 = .ok (.getfield 44, 3) := by decide +kernel
theorem dX5_openFactors_29 : decode cX5_openFactors 29 = .ok (.iload_n 3, 1) := by decide +kernel
theorem dX5_openFactors_30 : decode cX5_openFactors 30 = .ok (.laload, 1) := by decide +kernel
theorem dX5_openFactors_31 : decode cX5_openFactors 31 = .ok (.goto 4, 3) := by decide +kernel
theorem dX5_openFactors_34 : decode cX5_openFactors 34 = .ok (.lconst 0, 1) := by decide +kernel
theorem dX5_openFactors_35 : decode cX5_openFactors 35 = .ok (.ladd, 1) := by decide +kernel
theorem dX5_openFactors_36 : decode cX5_openFactors 36 = .ok (.lstore_n 1, 1) := by decide +kernel
theorem dX5_openFactors_37 : decode cX5_openFactors 37 = .ok (.iinc 3 1, 3) := by decide +kernel
theorem dX5_openFactors_40 : decode cX5_openFactors 40 = .ok (.goto (-33), 3) := by decide +kernel
theorem dX5_openFactors_43 : decode cX5_openFactors 43 = .ok (.lload_n 1, 1) := by decide +kernel
theorem dX5_openFactors_44 : decode cX5_openFactors 44 = .ok (.lreturn, 1) := by decide +kernel
theorem dX5_setBeyond_0 : decode cX5_setBeyond 0 = .ok (.aload_n 0, 1) := by decide +kernel
theorem dX5_setBeyond_1 : decode cX5_setBeyond 1 = .ok (.invokevirtual 168, 3) := by decide +kernel
theorem dX5_setBeyond_4 : decode cX5_setBeyond 4 = .ok (.lstore_n 2, 1) := by decide +kernel
theorem dX5_setBeyond_5 : decode cX5_setBeyond 5 = .ok (.lconst 0, 1) := by decide +kernel
theorem dX5_setBeyond_6 : decode cX5_setBeyond 6 = .ok (.lstore 4, 2) := by decide +kernel
theorem dX5_setBeyond_8 : decode cX5_setBeyond 8 = .ok (.aload_n 0, 1) := by decide +kernel
theorem dX5_setBeyond_9 : decode cX5_setBeyond 9 = .ok (.getfield 18, 3) := by decide +kernel
theorem dX5_setBeyond_12 : decode cX5_setBeyond 12 = .ok (.istore 6, 2) := by decide +kernel
theorem dX5_setBeyond_14 : decode cX5_setBeyond 14 = .ok (.iload 6, 2) := by decide +kernel
theorem dX5_setBeyond_16 : decode cX5_setBeyond 16 = .ok (.aload_n 0, 1) := by decide +kernel
theorem dX5_setBeyond_17 : decode cX5_setBeyond 17 = .ok (.getfield 15, 3) := by decide +kernel
theorem dX5_setBeyond_20 : decode cX5_setBeyond 20 = .ok (.if_icmp .ge 118, 3) := by decide +kernel
theorem dX5_setBeyond_23 : decode cX5_setBeyond 23 = .ok (.aload_n 0, 1) := by decide +kernel
theorem dX5_setBeyond_24 : decode cX5_setBeyond 24 = .ok (.getfield 57, 3) := by decide +kernel
theorem dX5_setBeyond_27 : decode cX5_setBeyond 27 = .ok (.aload_n 0, 1) := by decide +kernel
theorem dX5_setBeyond_28 : decode cX5_setBeyond 28 = .ok (.getfield 44, 3) := by decide +kernel
theorem dX5_setBeyond_31 : decode cX5_setBeyond 31 = .ok (.iload 6, 2) := by decide +kernel
theorem dX5_setBeyond_33 : decode cX5_setBeyond 33 = .ok (.laload, 1) := by decide +kernel
theorem dX5_setBeyond_34 : decode cX5_setBeyond 34 = .ok (.lmul, 1) := by decide +kernel
theorem dX5_setBeyond_35 : decode cX5_setBeyond 35 = .ok (.aload_n 0, 1) := by decide +kernel
theorem dX5_setBeyond_36 : decode cX5_setBeyond 36 = .ok (.getfield 40, 3) := by decide +kernel
theorem dX5_setBeyond_39 : decode cX5_setBeyond 39 = .ok (.iload 6, 2) := by decide +kernel
theorem dX5_setBeyond_41 : decode cX5_setBeyond 41 = .ok (.laload, 1) := by decide +kernel
theorem dX5_setBeyond_42 : decode cX5_setBeyond 42 = .ok (.lload_n 2, 1) := by decide +kernel
theorem dX5_setBeyond_43 : decode cX5_setBeyond 43 = .ok (.lmul, 1) := by decide +kernel
theorem dX5_setBeyond_44 : decode cX5_setBeyond 44 = .ok (.lsub, 1) := by decide +kernel
theorem dX5_setBeyond_45 : decode cX5_setBeyond 45 = .ok (.lstore 7, 2) := by decide +kernel
theorem dX5_setBeyond_47 : decode cX5_setBeyond 47 = .ok (.aload_n 0, 1) := by decide +kernel
theorem dX5_setBeyond_48 : decode cX5_setBeyond 48 = .ok (.getfield 53, 3) := by decide +kernel
theorem dX5_setBeyond_51 : decode cX5_setBeyond 51 = .ok (.iload 6, 2) := by decide +kernel
theorem dX5_setBeyond_53 : decode cX5_setBeyond 53 = .ok (.aload_n 0, 1) := by decide +kernel
theorem dX5_setBeyond_54 : decode cX5_setBeyond 54 = .ok (.getfield 37, 3) := by decide +kernel
theorem dX5_setBeyond_57 : decode cX5_setBeyond 57 = .ok (.iload 6, 2) := by decide +kernel
theorem dX5_setBeyond_59 : decode cX5_setBeyond 59 = .ok (.iaload, 1) := by decide +kernel
theorem dX5_setBeyond_60 : decode cX5_setBeyond 60 = .ok (.ifCond .ne 40, 3) := by decide +kernel
theorem dX5_setBeyond_63 : decode cX5_setBeyond 63 = .ok (.aload_n 0, 1) := by decide +kernel
theorem dX5_setBeyond_64 : decode cX5_setBeyond 64 = .ok (.getfield 34, 3) := by decide +kernel
theorem dX5_setBeyond_67 : decode cX5_setBeyond 67 = .ok (.iload 6, 2) := by decide +kernel
theorem dX5_setBeyond_69 : decode cX5_setBeyond 69 = .ok (.iaload, 1) := by decide +kernel
theorem dX5_setBeyond_70 : decode cX5_setBeyond 70 = .ok (.iload_n 1, 1) := by decide +kernel
theorem dX5_setBeyond_71 : decode cX5_setBeyond 71 = .ok (.if_icmp .ne 29, 3) := by decide +kernel
theorem dX5_setBeyond_74 : decode cX5_setBeyond 74 = .ok (.iload_n 1, 1) := by decide +kernel
theorem dX5_setBeyond_75 : decode cX5_setBeyond 75 = .ok (.iconst 3, 1) := by decide +kernel
theorem dX5_setBeyond_76 : decode cX5_setBeyond 76 = .ok (.if_icmp .ne 13, 3) := by decide +kernel
theorem dX5_setBeyond_79 : decode cX5_setBeyond 79 = .ok (.lload 7, 2) := by decide +kernel
theorem dX5_setBeyond_81 : decode cX5_setBeyond 81 = .ok (.lconst 0, 1) := by decide +kernel
theorem dX5_setBeyond_82 : decode cX5_setBeyond 82 = .ok (.lcmp, 1) := by decide +kernel
theorem dX5_setBeyond_83 : decode cX5_setBeyond 83 = .ok (.ifCond .ge 17, 3) := by decide +kernel
theorem dX5_setBeyond_86 : decode cX5_setBeyond 86 = .ok (.goto 10, 3) := by decide +kernel
theorem dX5_setBeyond_89 : decode cX5_setBeyond 89 = .ok (.lload 7, 2) := by decide +kernel
theorem dX5_setBeyond_91 : decode cX5_setBeyond 91 = .ok (.lconst 0, 1) := by decide +kernel
theorem dX5_setBeyond_92 : decode cX5_setBeyond 92 = .ok (.lcmp, 1) := by decide +kernel
theorem dX5_setBeyond_93 : decode cX5_setBeyond 93 = .ok (.ifCond .le 7, 3) := by decide +kernel
theorem dX5_setBeyond_96 : decode cX5_setBeyond 96 = .ok (.iconst 1, 1) := by decide +kernel
theorem dX5_setBeyond_97 : decode cX5_setBeyond 97 = .ok (.goto 4, 3) := by decide +kernel
theorem dX5_setBeyond_100 : decode cX5_setBeyond 100 = .ok (.iconst 0, 1) := by decide +kernel
theorem dX5_setBeyond_101 : decode cX5_setBeyond 101 = .ok (.bastore, 1) := by decide +kernel
theorem dX5_setBeyond_102 : decode cX5_setBeyond 102 = .ok (.aload_n 0, 1) := by decide +kernel
theorem dX5_setBeyond_103 : decode cX5_setBeyond 103 = .ok (.getfield 53, 3) := by decide +kernel
theorem dX5_setBeyond_106 : decode cX5_setBeyond 106 = .ok (.iload 6, 2) := by decide +kernel
theorem dX5_setBeyond_108 : decode cX5_setBeyond 108 = .ok (.baload, 1) := by decide +kernel
theorem dX5_setBeyond_109 : decode cX5_setBeyond 109 = .ok (.ifCond .eq 23, 3) := by decide +kernel
theorem dX5_setBeyond_112 : decode cX5_setBeyond 112 = .ok (.aload_n 0, 1) := by decide +kernel
theorem dX5_setBeyond_113 : decode cX5_setBeyond 113 = .ok (.getfield 37, 3) := by decide +kernel
theorem dX5_setBeyond_116 : decode cX5_setBeyond 116 = .ok (.iload 6, 2) := by decide +kernel
theorem dX5_setBeyond_118 : decode cX5_setBeyond 118 = .ok (.iload_n 1, 1) := by decide +kernel
theorem dX5_setBeyond_119 : decode cX5_setBeyond 119 = .ok (.iastore, 1) := by decide +kernel
theorem dX5_setBeyond_120 : decode cX5_setBeyond 120 = .ok (.lload 4, 2) := by decide +kernel
theorem dX5_setBeyond_122 : decode cX5_setBeyond 122 = .ok (.aload_n 0, 1) := by decide +kernel
theorem dX5_setBeyond_123 : decode cX5_setBeyond 123 = .ok (.getfield 40, 3) := by decide +kernel
theorem dX5_setBeyond_126 : decode cX5_setBeyond 126 = .ok (.iload 6, 2) := by decide +kernel
theorem dX5_setBeyond_128 : decode cX5_setBeyond 128 = .ok (.laload, 1) := by decide +kernel
theorem dX5_setBeyond_129 : decode cX5_setBeyond 129 = .ok (.ladd, 1) := by decide +kernel
theorem dX5_setBeyond_130 : decode cX5_setBeyond 130 = .ok (.lstore 4, 2) := by decide +kernel
theorem dX5_setBeyond_132 : decode cX5_setBeyond 132 = .ok (.iinc 6 1, 3) := by decide +kernel
theorem dX5_setBeyond_135 : decode cX5_setBeyond 135 = .ok (.goto (-121), 3) := by decide +kernel
theorem dX5_setBeyond_138 : decode cX5_setBeyond 138 = .ok (.lload 4, 2) := by decide +kernel
theorem dX5_setBeyond_140 : decode cX5_setBeyond 140 = .ok (.lreturn, 1) := by decide +kernel
theorem dX5_giveValues_0 : decode cX5_giveValues 0 = .ok (.aload_n 0, 1) := by decide +kernel
theorem dX5_giveValues_1 : decode cX5_giveValues 1 = .ok (.dup, 1) := by decide +kernel
theorem dX5_giveValues_2 : decode cX5_giveValues 2 = .ok (.getfield 57, 3) := by decide +kernel
theorem dX5_giveValues_5 : decode cX5_giveValues 5 = .ok (.lload_n 1, 1) := by decide +kernel
theorem dX5_giveValues_6 : decode cX5_giveValues 6 = .ok (.lsub, 1) := by decide +kernel
theorem dX5_giveValues_7 : decode cX5_giveValues 7 = .ok (.putfield 57, 3) := by decide +kernel
theorem dX5_giveValues_10 : decode cX5_giveValues 10 = .ok (.aload_n 0, 1) := by decide +kernel
theorem dX5_giveValues_11 : decode cX5_giveValues 11 = .ok (.getfield 18, 3) := by decide +kernel
theorem dX5_giveValues_14 : decode cX5_giveValues 14 = .ok (.istore_n 3, 1) := by decide +kernel
theorem dX5_giveValues_15 : decode cX5_giveValues 15 = .ok (.iload_n 3, 1) := by decide +kernel
theorem dX5_giveValues_16 : decode cX5_giveValues 16 = .ok (.aload_n 0, 1) := by decide +kernel
theorem dX5_giveValues_17 : decode cX5_giveValues 17 = .ok (.getfield 15, 3) := by decide +kernel
theorem dX5_giveValues_20 : decode cX5_giveValues 20 = .ok (.if_icmp .ge 31, 3) := by decide +kernel
theorem dX5_giveValues_23 : decode cX5_giveValues 23 = .ok (.aload_n 0, 1) := by decide +kernel
theorem dX5_giveValues_24 : decode cX5_giveValues 24 = .ok (.getfield 53, 3) := by decide +kernel
theorem dX5_giveValues_27 : decode cX5_giveValues 27 = .ok (.iload_n 3, 1) := by decide +kernel
theorem dX5_giveValues_28 : decode cX5_giveValues 28 = .ok (.baload, 1) := by decide +kernel
theorem dX5_giveValues_29 : decode cX5_giveValues 29 = .ok (.ifCond .eq 16, 3) := by decide +kernel
theorem dX5_giveValues_32 : decode cX5_giveValues 32 = .ok (.aload_n 0, 1) := by decide +kernel
theorem dX5_giveValues_33 : decode cX5_giveValues 33 = .ok (.getfield 47, 3) := by decide +kernel
theorem dX5_giveValues_36 : decode cX5_giveValues 36 = .ok (.iload_n 3, 1) := by decide +kernel
theorem dX5_giveValues_37 : decode cX5_giveValues 37 = .ok (.aload_n 0, 1) := by decide +kernel
theorem dX5_giveValues_38 : decode cX5_giveValues 38 = .ok (.getfield 40, 3) := by decide +kernel
theorem dX5_giveValues_41 : decode cX5_giveValues 41 = .ok (.iload_n 3, 1) := by decide +kernel
theorem dX5_giveValues_42 : decode cX5_giveValues 42 = .ok (.laload, 1) := by decide +kernel
theorem dX5_giveValues_43 : decode cX5_giveValues 43 = .ok (.l2i, 1) := by decide +kernel
theorem dX5_giveValues_44 : decode cX5_giveValues 44 = .ok (.iastore, 1) := by decide +kernel
theorem dX5_giveValues_45 : decode cX5_giveValues 45 = .ok (.iinc 3 1, 3) := by decide +kernel
theorem dX5_giveValues_48 : decode cX5_giveValues 48 = .ok (.goto (-33), 3) := by decide +kernel
theorem dX5_giveValues_51 : decode cX5_giveValues 51 = .ok (.return_, 1) := by decide +kernel
theorem dX5_partAmong_0 : decode cX5_partAmong 0 = .ok (.aload_n 0, 1) := by decide +kernel
theorem dX5_partAmong_1 : decode cX5_partAmong 1 = .ok (.getfield 18, 3) := by decide +kernel
theorem dX5_partAmong_4 : decode cX5_partAmong 4 = .ok (.istore_n 2, 1) := by decide +kernel
theorem dX5_partAmong_5 : decode cX5_partAmong 5 = .ok (.iload_n 2, 1) := by decide +kernel
theorem dX5_partAmong_6 : decode cX5_partAmong 6 = .ok (.aload_n 0, 1) := by decide +kernel
theorem dX5_partAmong_7 : decode cX5_partAmong 7 = .ok (.getfield 15, 3) := by decide +kernel
theorem dX5_partAmong_10 : decode cX5_partAmong 10 = .ok (.if_icmp .ge 30, 3) := by decide +kernel
theorem dX5_partAmong_13 : decode cX5_partAmong 13 = .ok (.aload_n 0, 1) := by decide +kernel
theorem dX5_partAmong_14 : decode cX5_partAmong 14 = .ok (.getfield 53, 3) := by decide +kernel
theorem dX5_partAmong_17 : decode cX5_partAmong 17 = .ok (.iload_n 2, 1) := by decide +kernel
theorem dX5_partAmong_18 : decode cX5_partAmong 18 = .ok (.aload_n 0, 1) := by decide +kernel
theorem dX5_partAmong_19 : decode cX5_partAmong 19 = .ok (.getfield 37, 3) := by decide +kernel
theorem dX5_partAmong_22 : decode cX5_partAmong 22 = .ok (.iload_n 2, 1) := by decide +kernel
theorem dX5_partAmong_23 : decode cX5_partAmong 23 = .ok (.iaload, 1) := by decide +kernel
theorem dX5_partAmong_24 : decode cX5_partAmong 24 = .ok (.iload_n 1, 1) := by decide +kernel
theorem dX5_partAmong_25 : decode cX5_partAmong 25 = .ok (.if_icmp .ne 7, 3) := by decide +kernel
theorem dX5_partAmong_28 : decode cX5_partAmong 28 = .ok (.iconst 1, 1) := by decide +kernel
theorem dX5_partAmong_29 : decode cX5_partAmong 29 = .ok (.goto 4, 3) := by decide +kernel
theorem dX5_partAmong_32 : decode cX5_partAmong 32 = .ok (.iconst 0, 1) := by decide +kernel
theorem dX5_partAmong_33 : decode cX5_partAmong 33 = .ok (.bastore, 1) := by decide +kernel
theorem dX5_partAmong_34 : decode cX5_partAmong 34 = .ok (.iinc 2 1, 3) := by decide +kernel
theorem dX5_partAmong_37 : decode cX5_partAmong 37 = .ok (.goto (-32), 3) := by decide +kernel
theorem dX5_partAmong_40 : decode cX5_partAmong 40 = .ok (.aload_n 0, 1) := by decide +kernel
theorem dX5_partAmong_41 : decode cX5_partAmong 41 = .ok (.aload_n 0, 1) := by decide +kernel
theorem dX5_partAmong_42 : decode cX5_partAmong 42 = .ok (.getfield 44, 3) := by decide +kernel
theorem dX5_partAmong_45 : decode cX5_partAmong 45 = .ok (.invokevirtual 157, 3) := by decide +kernel
theorem dX5_partAmong_48 : decode cX5_partAmong 48 = .ok (.return_, 1) := by decide +kernel
theorem dX5_partPool_0 : decode cX5_partPool 0 = .ok (.lconst 0, 1) := by decide +kernel
theorem dX5_partPool_1 : decode cX5_partPool 1 = .ok (.lstore_n 2, 1) := by decide +kernel
theorem dX5_partPool_2 : decode cX5_partPool 2 = .ok (.aload_n 0, 1) := by decide +kernel
theorem dX5_partPool_3 : decode cX5_partPool 3 = .ok (.getfield 18, 3) := by decide +kernel
theorem dX5_partPool_6 : decode cX5_partPool 6 = .ok (.istore 4, 2) := by decide +kernel
theorem dX5_partPool_8 : decode cX5_partPool 8 = .ok (.iload 4, 2) := by decide +kernel
theorem dX5_partPool_10 : decode cX5_partPool 10 = .ok (.aload_n 0, 1) := by decide +kernel
theorem dX5_partPool_11 : decode cX5_partPool 11 = .ok (.getfield 15, 3) := by decide +kernel
theorem dX5_partPool_14 : decode cX5_partPool 14 = .ok (.if_icmp .ge 30, 3) := by decide +kernel
theorem dX5_partPool_17 : decode cX5_partPool 17 = .ok (.lload_n 2, 1) := by decide +kernel
theorem dX5_partPool_18 : decode cX5_partPool 18 = .ok (.aload_n 0, 1) := by decide +kernel
theorem dX5_partPool_19 : decode cX5_partPool 19 = .ok (.getfield 53, 3) := by decide +kernel
theorem dX5_partPool_22 : decode cX5_partPool 22 = .ok (.iload 4, 2) := by decide +kernel
theorem dX5_partPool_24 : decode cX5_partPool 24 = .ok (.baload, 1) := by decide +kernel
theorem dX5_partPool_25 : decode cX5_partPool 25 = .ok (.ifCond .eq 10, 3) := by decide +kernel
theorem dX5_partPool_28 : decode cX5_partPool 28 = .ok (.aload_n 1, 1) := by decide +kernel
theorem dX5_partPool_29 : decode cX5_partPool 29 = .ok (.iload 4, 2) := by decide +kernel
theorem dX5_partPool_31 : decode cX5_partPool 31 = .ok (.laload, 1) := by decide +kernel
theorem dX5_partPool_32 : decode cX5_partPool 32 = .ok (.goto 4, 3) := by decide +kernel
theorem dX5_partPool_35 : decode cX5_partPool 35 = .ok (.lconst 0, 1) := by decide +kernel
theorem dX5_partPool_36 : decode cX5_partPool 36 = .ok (.ladd, 1) := by decide +kernel
theorem dX5_partPool_37 : decode cX5_partPool 37 = .ok (.lstore_n 2, 1) := by decide +kernel
theorem dX5_partPool_38 : decode cX5_partPool 38 = .ok (.iinc 4 1, 3) := by decide +kernel
theorem dX5_partPool_41 : decode cX5_partPool 41 = .ok (.goto (-33), 3) := by decide +kernel
theorem dX5_partPool_44 : decode cX5_partPool 44 = .ok (.lload_n 2, 1) := by decide +kernel
theorem dX5_partPool_45 : decode cX5_partPool 45 = .ok (.lconst 0, 1) := by decide +kernel
theorem dX5_partPool_46 : decode cX5_partPool 46 = .ok (.lcmp, 1) := by decide +kernel
theorem dX5_partPool_47 : decode cX5_partPool 47 = .ok (.ifCond .gt 4, 3) := by decide +kernel
theorem dX5_partPool_50 : decode cX5_partPool 50 = .ok (.return_, 1) := by decide +kernel
theorem dX5_partPool_51 : decode cX5_partPool 51 = .ok (.aload_n 0, 1) := by decide +kernel
theorem dX5_partPool_52 : decode cX5_partPool 52 = .ok (.getfield 57, 3) := by decide +kernel
theorem dX5_partPool_55 : decode cX5_partPool 55 = .ok (.lstore 4, 2) := by decide +kernel
theorem dX5_partPool_57 : decode cX5_partPool 57 = .ok (.aload_n 0, 1) := by decide +kernel
theorem dX5_partPool_58 : decode cX5_partPool 58 = .ok (.getfield 18, 3) := by decide +kernel
theorem dX5_partPool_61 : decode cX5_partPool 61 = .ok (.istore 6, 2) := by decide +kernel
theorem dX5_partPool_63 : decode cX5_partPool 63 = .ok (.iload 6, 2) := by decide +kernel
theorem dX5_partPool_65 : decode cX5_partPool 65 = .ok (.aload_n 0, 1) := by decide +kernel
theorem dX5_partPool_66 : decode cX5_partPool 66 = .ok (.getfield 15, 3) := by decide +kernel
theorem dX5_partPool_69 : decode cX5_partPool 69 = .ok (.if_icmp .ge 70, 3) := by decide +kernel
theorem dX5_partPool_72 : decode cX5_partPool 72 = .ok (.aload_n 0, 1) := by decide +kernel
theorem dX5_partPool_73 : decode cX5_partPool 73 = .ok (.getfield 53, 3) := by decide +kernel
theorem dX5_partPool_76 : decode cX5_partPool 76 = .ok (.iload 6, 2) := by decide +kernel
theorem dX5_partPool_78 : decode cX5_partPool 78 = .ok (.baload, 1) := by decide +kernel
theorem dX5_partPool_79 : decode cX5_partPool 79 = .ok (.ifCond .eq 54, 3) := by decide +kernel
theorem dX5_partPool_82 : decode cX5_partPool 82 = .ok (.lload 4, 2) := by decide +kernel
theorem dX5_partPool_84 : decode cX5_partPool 84 = .ok (.aload_n 1, 1) := by decide +kernel
theorem dX5_partPool_85 : decode cX5_partPool 85 = .ok (.iload 6, 2) := by decide +kernel
theorem dX5_partPool_87 : decode cX5_partPool 87 = .ok (.laload, 1) := by decide +kernel
theorem dX5_partPool_88 : decode cX5_partPool 88 = .ok (.lmul, 1) := by decide +kernel
theorem dX5_partPool_89 : decode cX5_partPool 89 = .ok (.lload_n 2, 1) := by decide +kernel
theorem dX5_partPool_90 : decode cX5_partPool 90 = .ok (.ldiv, 1) := by decide +kernel
theorem dX5_partPool_91 : decode cX5_partPool 91 = .ok (.lstore 7, 2) := by decide +kernel
theorem dX5_partPool_93 : decode cX5_partPool 93 = .ok (.aload_n 0, 1) := by decide +kernel
theorem dX5_partPool_94 : decode cX5_partPool 94 = .ok (.getfield 47, 3) := by decide +kernel
theorem dX5_partPool_97 : decode cX5_partPool 97 = .ok (.iload 6, 2) := by decide +kernel
theorem dX5_partPool_99 : decode cX5_partPool 99 = .ok (.dup2, 1) := by decide +kernel
theorem dX5_partPool_100 : decode cX5_partPool 100 = .ok (.iaload, 1) := by decide +kernel
theorem dX5_partPool_101 : decode cX5_partPool 101 = .ok (.lload 7, 2) := by decide +kernel
theorem dX5_partPool_103 : decode cX5_partPool 103 = .ok (.l2i, 1) := by decide +kernel
theorem dX5_partPool_104 : decode cX5_partPool 104 = .ok (.iadd, 1) := by decide +kernel
theorem dX5_partPool_105 : decode cX5_partPool 105 = .ok (.iastore, 1) := by decide +kernel
theorem dX5_partPool_106 : decode cX5_partPool 106 = .ok (.aload_n 0, 1) := by decide +kernel
theorem dX5_partPool_107 : decode cX5_partPool 107 = .ok (.getfield 50, 3) := by decide +kernel
theorem dX5_partPool_110 : decode cX5_partPool 110 = .ok (.iload 6, 2) := by decide +kernel
theorem dX5_partPool_112 : decode cX5_partPool 112 = .ok (.lload 4, 2) := by decide +kernel
theorem dX5_partPool_114 : decode cX5_partPool 114 = .ok (.aload_n 1, 1) := by decide +kernel
theorem dX5_partPool_115 : decode cX5_partPool 115 = .ok (.iload 6, 2) := by decide +kernel
theorem dX5_partPool_117 : decode cX5_partPool 117 = .ok (.laload, 1) := by decide +kernel
theorem dX5_partPool_118 : decode cX5_partPool 118 = .ok (.lmul, 1) := by decide +kernel
theorem dX5_partPool_119 : decode cX5_partPool 119 = .ok (.lload_n 2, 1) := by decide +kernel
theorem dX5_partPool_120 : decode cX5_partPool 120 = .ok (.lrem, 1) := by decide +kernel
theorem dX5_partPool_121 : decode cX5_partPool 121 = .ok (.lastore, 1) := by decide +kernel
theorem dX5_partPool_122 : decode cX5_partPool 122 = .ok (.aload_n 0, 1) := by decide +kernel
theorem dX5_partPool_123 : decode cX5_partPool 123 = .ok (.dup, 1) := by decide +kernel
theorem dX5_partPool_124 : decode cX5_partPool 124 = .ok (.getfield 57, 3) := by decide +kernel
theorem dX5_partPool_127 : decode cX5_partPool 127 = .ok (.lload 7, 2) := by decide +kernel
theorem dX5_partPool_129 : decode cX5_partPool 129 = .ok (.lsub, 1) := by decide +kernel
theorem dX5_partPool_130 : decode cX5_partPool 130 = .ok (.putfield 57, 3) := by decide +kernel
theorem dX5_partPool_133 : decode cX5_partPool 133 = .ok (.iinc 6 1, 3) := by decide +kernel
theorem dX5_partPool_136 : decode cX5_partPool 136 = .ok (.goto (-73), 3) := by decide +kernel
theorem dX5_partPool_139 : decode cX5_partPool 139 = .ok (.return_, 1) := by decide +kernel
theorem dX5_giveCentsLeft_0 : decode cX5_giveCentsLeft 0 = .ok (.aload_n 0, 1) := by decide +kernel
theorem dX5_giveCentsLeft_1 : decode cX5_giveCentsLeft 1 = .ok (.aload_n 0, 1) := by decide +kernel
theorem dX5_giveCentsLeft_2 : decode cX5_giveCentsLeft 2 = .ok (.getfield 57, 3) := by decide +kernel
theorem dX5_giveCentsLeft_5 : decode cX5_giveCentsLeft 5 = .ok (.l2i, 1) := by decide +kernel
theorem dX5_giveCentsLeft_6 : decode cX5_giveCentsLeft 6 = .ok (.putfield 64, 3) := by decide +kernel
theorem dX5_giveCentsLeft_9 : decode cX5_giveCentsLeft 9 = .ok (.iconst 0, 1) := by decide +kernel
theorem dX5_giveCentsLeft_10 : decode cX5_giveCentsLeft 10 = .ok (.istore_n 1, 1) := by decide +kernel
theorem dX5_giveCentsLeft_11 : decode cX5_giveCentsLeft 11 = .ok (.iload_n 1, 1) := by decide +kernel
theorem dX5_giveCentsLeft_12 : decode cX5_giveCentsLeft 12 = .ok (.aload_n 0, 1) := by decide +kernel
theorem dX5_giveCentsLeft_13 : decode cX5_giveCentsLeft 13 = .ok (.getfield 64, 3) := by decide +kernel
theorem dX5_giveCentsLeft_16 : decode cX5_giveCentsLeft 16 = .ok (.if_icmp .ge 44, 3) := by decide +kernel
theorem dX5_giveCentsLeft_19 : decode cX5_giveCentsLeft 19 = .ok (.iload_n 1, 1) := by decide +kernel
theorem dX5_giveCentsLeft_20 : decode cX5_giveCentsLeft 20 = .ok (.bipush 8, 2) := by decide +kernel
theorem dX5_giveCentsLeft_22 : decode cX5_giveCentsLeft 22 = .ok (.if_icmp .ge 38, 3) := by decide +kernel
theorem dX5_giveCentsLeft_25 : decode cX5_giveCentsLeft 25 = .ok (.aload_n 0, 1) := by decide +kernel
theorem dX5_giveCentsLeft_26 : decode cX5_giveCentsLeft 26 = .ok (.invokevirtual 172, 3) := by decide +kernel
theorem dX5_giveCentsLeft_29 : decode cX5_giveCentsLeft 29 = .ok (.istore_n 2, 1) := by decide +kernel
theorem dX5_giveCentsLeft_30 : decode cX5_giveCentsLeft 30 = .ok (.iload_n 2, 1) := by decide +kernel
theorem dX5_giveCentsLeft_31 : decode cX5_giveCentsLeft 31 = .ok (.iconst (-1), 1) := by decide +kernel
theorem dX5_giveCentsLeft_32 : decode cX5_giveCentsLeft 32 = .ok (.if_icmp .eq 22, 3) := by decide +kernel
theorem dX5_giveCentsLeft_35 : decode cX5_giveCentsLeft 35 = .ok (.aload_n 0, 1) := by decide +kernel
theorem dX5_giveCentsLeft_36 : decode cX5_giveCentsLeft 36 = .ok (.getfield 47, 3) := by decide +kernel
theorem dX5_giveCentsLeft_39 : decode cX5_giveCentsLeft 39 = .ok (.iload_n 2, 1) := by decide +kernel
theorem dX5_giveCentsLeft_40 : decode cX5_giveCentsLeft 40 = .ok (.dup2, 1) := by decide +kernel
theorem dX5_giveCentsLeft_41 : decode cX5_giveCentsLeft 41 = .ok (.iaload, 1) := by decide +kernel
theorem dX5_giveCentsLeft_42 : decode cX5_giveCentsLeft 42 = .ok (.iconst 1, 1) := by decide +kernel
theorem dX5_giveCentsLeft_43 : decode cX5_giveCentsLeft 43 = .ok (.iadd, 1) := by decide +kernel
theorem dX5_giveCentsLeft_44 : decode cX5_giveCentsLeft 44 = .ok (.iastore, 1) := by decide +kernel
theorem dX5_giveCentsLeft_45 : decode cX5_giveCentsLeft 45 = .ok (.aload_n 0, 1) := by decide +kernel
theorem dX5_giveCentsLeft_46 : decode cX5_giveCentsLeft 46 = .ok (.getfield 50, 3) := by decide +kernel
theorem dX5_giveCentsLeft_49 : decode cX5_giveCentsLeft 49 = .ok (.iload_n 2, 1) := by decide +kernel
theorem dX5_giveCentsLeft_50 : decode cX5_giveCentsLeft 50 = .ok (.ldc2_w 176, 3) := by decide +kernel
theorem dX5_giveCentsLeft_53 : decode cX5_giveCentsLeft 53 = .ok (.lastore, 1) := by decide +kernel
theorem dX5_giveCentsLeft_54 : decode cX5_giveCentsLeft 54 = .ok (.iinc 1 1, 3) := by decide +kernel
theorem dX5_giveCentsLeft_57 : decode cX5_giveCentsLeft 57 = .ok (.goto (-46), 3) := by decide +kernel
theorem dX5_giveCentsLeft_60 : decode cX5_giveCentsLeft 60 = .ok (.return_, 1) := by decide +kernel
theorem dX5_greatestRest_0 : decode cX5_greatestRest 0 = .ok (.iconst (-1), 1) := by decide +kernel
theorem dX5_greatestRest_1 : decode cX5_greatestRest 1 = .ok (.istore_n 1, 1) := by decide +kernel
theorem dX5_greatestRest_2 : decode cX5_greatestRest 2 = .ok (.aload_n 0, 1) := by decide +kernel
theorem dX5_greatestRest_3 : decode cX5_greatestRest 3 = .ok (.getfield 18, 3) := by decide +kernel
theorem dX5_greatestRest_6 : decode cX5_greatestRest 6 = .ok (.istore_n 2, 1) := by decide +kernel
theorem dX5_greatestRest_7 : decode cX5_greatestRest 7 = .ok (.iload_n 2, 1) := by decide +kernel
theorem dX5_greatestRest_8 : decode cX5_greatestRest 8 = .ok (.aload_n 0, 1) := by decide +kernel
theorem dX5_greatestRest_9 : decode cX5_greatestRest 9 = .ok (.getfield 15, 3) := by decide +kernel
theorem dX5_greatestRest_12 : decode cX5_greatestRest 12 = .ok (.if_icmp .ge 43, 3) := by decide +kernel
theorem dX5_greatestRest_15 : decode cX5_greatestRest 15 = .ok (.aload_n 0, 1) := by decide +kernel
theorem dX5_greatestRest_16 : decode cX5_greatestRest 16 = .ok (.getfield 50, 3) := by decide +kernel
theorem dX5_greatestRest_19 : decode cX5_greatestRest 19 = .ok (.iload_n 2, 1) := by decide +kernel
theorem dX5_greatestRest_20 : decode cX5_greatestRest 20 = .ok (.laload, 1) := by decide +kernel
theorem dX5_greatestRest_21 : decode cX5_greatestRest 21 = .ok (.lconst 0, 1) := by decide +kernel
theorem dX5_greatestRest_22 : decode cX5_greatestRest 22 = .ok (.lcmp, 1) := by decide +kernel
theorem dX5_greatestRest_23 : decode cX5_greatestRest 23 = .ok (.ifCond .lt 26, 3) := by decide +kernel
theorem dX5_greatestRest_26 : decode cX5_greatestRest 26 = .ok (.iload_n 1, 1) := by decide +kernel
theorem dX5_greatestRest_27 : decode cX5_greatestRest 27 = .ok (.iconst (-1), 1) := by decide +kernel
theorem dX5_greatestRest_28 : decode cX5_greatestRest 28 = .ok (.if_icmp .eq 19, 3) := by decide +kernel
theorem dX5_greatestRest_31 : decode cX5_greatestRest 31 = .ok (.aload_n 0, 1) := by decide +kernel
theorem dX5_greatestRest_32 : decode cX5_greatestRest 32 = .ok (.getfield 50, 3) := by decide +kernel
theorem dX5_greatestRest_35 : decode cX5_greatestRest 35 = .ok (.iload_n 2, 1) := by decide +kernel
theorem dX5_greatestRest_36 : decode cX5_greatestRest 36 = .ok (.laload, 1) := by decide +kernel
theorem dX5_greatestRest_37 : decode cX5_greatestRest 37 = .ok (.aload_n 0, 1) := by decide +kernel
theorem dX5_greatestRest_38 : decode cX5_greatestRest 38 = .ok (.getfield 50, 3) := by decide +kernel
theorem dX5_greatestRest_41 : decode cX5_greatestRest 41 = .ok (.iload_n 1, 1) := by decide +kernel
theorem dX5_greatestRest_42 : decode cX5_greatestRest 42 = .ok (.laload, 1) := by decide +kernel
theorem dX5_greatestRest_43 : decode cX5_greatestRest 43 = .ok (.lcmp, 1) := by decide +kernel
theorem dX5_greatestRest_44 : decode cX5_greatestRest 44 = .ok (.ifCond .le 5, 3) := by decide +kernel
theorem dX5_greatestRest_47 : decode cX5_greatestRest 47 = .ok (.iload_n 2, 1) := by decide +kernel
theorem dX5_greatestRest_48 : decode cX5_greatestRest 48 = .ok (.istore_n 1, 1) := by decide +kernel
theorem dX5_greatestRest_49 : decode cX5_greatestRest 49 = .ok (.iinc 2 1, 3) := by decide +kernel
theorem dX5_greatestRest_52 : decode cX5_greatestRest 52 = .ok (.goto (-45), 3) := by decide +kernel
theorem dX5_greatestRest_55 : decode cX5_greatestRest 55 = .ok (.iload_n 1, 1) := by decide +kernel
theorem dX5_greatestRest_56 : decode cX5_greatestRest 56 = .ok (.ireturn, 1) := by decide +kernel
theorem dX7_init_0 : decode cX7_init 0 = .ok (.aload_n 0, 1) := by decide +kernel
theorem dX7_init_1 : decode cX7_init 1 = .ok (.invokespecial 1, 3) := by decide +kernel
theorem dX7_init_4 : decode cX7_init 4 = .ok (.aload_n 0, 1) := by decide +kernel
theorem dX7_init_5 : decode cX7_init 5 = .ok (.sipush 1200, 3) := by decide +kernel
theorem dX7_init_8 : decode cX7_init 8 = .ok (.newarray .int, 2) := by decide +kernel
theorem dX7_init_10 : decode cX7_init 10 = .ok (.putfield 9, 3) := by decide +kernel
theorem dX7_init_13 : decode cX7_init 13 = .ok (.aload_n 0, 1) := by decide +kernel
theorem dX7_init_14 : decode cX7_init 14 = .ok (.iconst 0, 1) := by decide +kernel
theorem dX7_init_15 : decode cX7_init 15 = .ok (.putfield 13, 3) := by decide +kernel
theorem dX7_init_18 : decode cX7_init 18 = .ok (.aload_n 0, 1) := by decide +kernel
theorem dX7_init_19 : decode cX7_init 19 = .ok (.new 17, 3) := by decide +kernel
theorem dX7_init_22 : decode cX7_init 22 = .ok (.dup, 1) := by decide +kernel
theorem dX7_init_23 : decode cX7_init 23 = .ok (.invokespecial 19, 3) := by decide +kernel
theorem dX7_init_26 : decode cX7_init 26 = .ok (.putfield 20, 3) := by decide +kernel
theorem dX7_init_29 : decode cX7_init 29 = .ok (.aload_n 0, 1) := by decide +kernel
theorem dX7_init_30 : decode cX7_init 30 = .ok (.new 17, 3) := by decide +kernel
theorem dX7_init_33 : decode cX7_init 33 = .ok (.dup, 1) := by decide +kernel
theorem dX7_init_34 : decode cX7_init 34 = .ok (.invokespecial 19, 3) := by decide +kernel
theorem dX7_init_37 : decode cX7_init 37 = .ok (.putfield 24, 3) := by decide +kernel
theorem dX7_init_40 : decode cX7_init 40 = .ok (.aload_n 0, 1) := by decide +kernel
theorem dX7_init_41 : decode cX7_init 41 = .ok (.new 27, 3) := by decide +kernel
theorem dX7_init_44 : decode cX7_init 44 = .ok (.dup, 1) := by decide +kernel
theorem dX7_init_45 : decode cX7_init 45 = .ok (.aload_n 0, 1) := by decide +kernel
theorem dX7_init_46 : decode cX7_init 46 = .ok (.getfield 9, 3) := by decide +kernel
theorem dX7_init_49 : decode cX7_init 49 = .ok (.aload_n 0, 1) := by decide +kernel
theorem dX7_init_50 : decode cX7_init 50 = .ok (.getfield 24, 3) := by decide +kernel
theorem dX7_init_53 : decode cX7_init 53 = .ok (.invokespecial 29, 3) := by decide +kernel
theorem dX7_init_56 : decode cX7_init 56 = .ok (.putfield 32, 3) := by decide +kernel
theorem dX7_init_59 : decode cX7_init 59 = .ok (.aload_n 0, 1) := by decide +kernel
theorem dX7_init_60 : decode cX7_init 60 = .ok (.new 36, 3) := by decide +kernel
theorem dX7_init_63 : decode cX7_init 63 = .ok (.dup, 1) := by decide +kernel
theorem dX7_init_64 : decode cX7_init 64 = .ok (.invokespecial 38, 3) := by decide +kernel
theorem dX7_init_67 : decode cX7_init 67 = .ok (.putfield 39, 3) := by decide +kernel
theorem dX7_init_70 : decode cX7_init 70 = .ok (.aload_n 0, 1) := by decide +kernel
theorem dX7_init_71 : decode cX7_init 71 = .ok (.new 43, 3) := by decide +kernel
theorem dX7_init_74 : decode cX7_init 74 = .ok (.dup, 1) := by decide +kernel
theorem dX7_init_75 : decode cX7_init 75 = .ok (.aload_n 0, 1) := by decide +kernel
theorem dX7_init_76 : decode cX7_init 76 = .ok (.getfield 20, 3) := by decide +kernel
theorem dX7_init_79 : decode cX7_init 79 = .ok (.invokespecial 45, 3) := by decide +kernel
theorem dX7_init_82 : decode cX7_init 82 = .ok (.putfield 48, 3) := by decide +kernel
theorem dX7_init_85 : decode cX7_init 85 = .ok (.aload_n 0, 1) := by decide +kernel
theorem dX7_init_86 : decode cX7_init 86 = .ok (.new 52, 3) := by decide +kernel
theorem dX7_init_89 : decode cX7_init 89 = .ok (.dup, 1) := by decide +kernel
theorem dX7_init_90 : decode cX7_init 90 = .ok (.invokespecial 54, 3) := by decide +kernel
theorem dX7_init_93 : decode cX7_init 93 = .ok (.putfield 55, 3) := by decide +kernel
theorem dX7_init_96 : decode cX7_init 96 = .ok (.aload_n 0, 1) := by decide +kernel
theorem dX7_init_97 : decode cX7_init 97 = .ok (.bipush 8, 2) := by decide +kernel
theorem dX7_init_99 : decode cX7_init 99 = .ok (.newarray .int, 2) := by decide +kernel
theorem dX7_init_101 : decode cX7_init 101 = .ok (.putfield 59, 3) := by decide +kernel
theorem dX7_init_104 : decode cX7_init 104 = .ok (.aload_n 0, 1) := by decide +kernel
theorem dX7_init_105 : decode cX7_init 105 = .ok (.bipush 6, 2) := by decide +kernel
theorem dX7_init_107 : decode cX7_init 107 = .ok (.newarray .int, 2) := by decide +kernel
theorem dX7_init_109 : decode cX7_init 109 = .ok (.putfield 62, 3) := by decide +kernel
theorem dX7_init_112 : decode cX7_init 112 = .ok (.return_, 1) := by decide +kernel
theorem dX7_feed_0 : decode cX7_feed 0 = .ok (.aload_n 0, 1) := by decide +kernel
theorem dX7_feed_1 : decode cX7_feed 1 = .ok (.getfield 13, 3) := by decide +kernel
theorem dX7_feed_4 : decode cX7_feed 4 = .ok (.bipush 20, 2) := by decide +kernel
theorem dX7_feed_6 : decode cX7_feed 6 = .ok (.iadd, 1) := by decide +kernel
theorem dX7_feed_7 : decode cX7_feed 7 = .ok (.sipush 1200, 3) := by decide +kernel
theorem dX7_feed_10 : decode cX7_feed 10 = .ok (.if_icmp .le 5, 3) := by decide +kernel
theorem dX7_feed_13 : decode cX7_feed 13 = .ok (.iconst (-1), 1) := by decide +kernel
theorem dX7_feed_14 : decode cX7_feed 14 = .ok (.ireturn, 1) := by decide +kernel
theorem dX7_feed_15 : decode cX7_feed 15 = .ok (.aload_n 0, 1) := by decide +kernel
theorem dX7_feed_16 : decode cX7_feed 16 = .ok (.iload_n 1, 1) := by decide +kernel
theorem dX7_feed_17 : decode cX7_feed 17 = .ok (.invokevirtual 65, 3) := by decide +kernel
theorem dX7_feed_20 : decode cX7_feed 20 = .ok (.aload_n 0, 1) := by decide +kernel
theorem dX7_feed_21 : decode cX7_feed 21 = .ok (.iload_n 2, 1) := by decide +kernel
theorem dX7_feed_22 : decode cX7_feed 22 = .ok (.invokevirtual 65, 3) := by decide +kernel
theorem dX7_feed_25 : decode cX7_feed 25 = .ok (.aload_n 0, 1) := by decide +kernel
theorem dX7_feed_26 : decode cX7_feed 26 = .ok (.iload_n 3, 1) := by decide +kernel
theorem dX7_feed_27 : decode cX7_feed 27 = .ok (.invokevirtual 65, 3) := by decide +kernel
theorem dX7_feed_30 : decode cX7_feed 30 = .ok (.aload_n 0, 1) := by decide +kernel
theorem dX7_feed_31 : decode cX7_feed 31 = .ok (.iload 4, 2) := by decide +kernel
theorem dX7_feed_33 : decode cX7_feed 33 = .ok (.invokevirtual 65, 3) := by decide +kernel
theorem dX7_feed_36 : decode cX7_feed 36 = .ok (.aload_n 0, 1) := by decide +kernel
theorem dX7_feed_37 : decode cX7_feed 37 = .ok (.iload 5, 2) := by decide +kernel
theorem dX7_feed_39 : decode cX7_feed 39 = .ok (.invokevirtual 65, 3) := by decide +kernel
theorem dX7_feed_42 : decode cX7_feed 42 = .ok (.aload_n 0, 1) := by decide +kernel
theorem dX7_feed_43 : decode cX7_feed 43 = .ok (.getfield 13, 3) := by decide +kernel
theorem dX7_feed_46 : decode cX7_feed 46 = .ok (.ireturn, 1) := by decide +kernel
theorem dX7_feedNumber_0 : decode cX7_feedNumber 0 = .ok (.bipush 24, 2) := by decide +kernel
theorem dX7_feedNumber_2 : decode cX7_feedNumber 2 = .ok (.istore_n 2, 1) := by decide +kernel
theorem dX7_feedNumber_3 : decode cX7_feedNumber 3 = .ok (.iload_n 2, 1) := by decide +kernel
theorem dX7_feedNumber_4 : decode cX7_feedNumber 4 = .ok (.ifCond .lt 47, 3) := by decide +kernel
theorem dX7_feedNumber_7 : decode cX7_feedNumber 7 = .ok (.aload_n 0, 1) := by decide +kernel
theorem dX7_feedNumber_8 : decode cX7_feedNumber 8 = .ok (.getfield 13, 3) := by decide +kernel
theorem dX7_feedNumber_11 : decode cX7_feedNumber 11 = .ok (.aload_n 0, 1) := by decide +kernel
theorem dX7_feedNumber_12 : decode cX7_feedNumber 12 = .ok (.getfield 9, 3) := by decide +kernel
theorem dX7_feedNumber_15 : decode cX7_feedNumber 15 = .ok (.arraylength, 1) := by decide +kernel
theorem dX7_feedNumber_16 : decode cX7_feedNumber 16 = .ok (.if_icmp .ge 29, 3) := by decide +kernel
theorem dX7_feedNumber_19 : decode cX7_feedNumber 19 = .ok (.aload_n 0, 1) := by decide +kernel
theorem dX7_feedNumber_20 : decode cX7_feedNumber 20 = .ok (.getfield 9, 3) := by decide +kernel
theorem dX7_feedNumber_23 : decode cX7_feedNumber 23 = .ok (.aload_n 0, 1) := by decide +kernel
theorem dX7_feedNumber_24 : decode cX7_feedNumber 24 = .ok (.getfield 13, 3) := by decide +kernel
theorem dX7_feedNumber_27 : decode cX7_feedNumber 27 = .ok (.iload_n 1, 1) := by decide +kernel
theorem dX7_feedNumber_28 : decode cX7_feedNumber 28 = .ok (.iload_n 2, 1) := by decide +kernel
theorem dX7_feedNumber_29 : decode cX7_feedNumber 29 = .ok (.ishr, 1) := by decide +kernel
theorem dX7_feedNumber_30 : decode cX7_feedNumber 30 = .ok (.sipush 255, 3) := by decide +kernel
theorem dX7_feedNumber_33 : decode cX7_feedNumber 33 = .ok (.iand, 1) := by decide +kernel
theorem dX7_feedNumber_34 : decode cX7_feedNumber 34 = .ok (.iastore, 1) := by decide +kernel
theorem dX7_feedNumber_35 : decode cX7_feedNumber 35 = .ok (.aload_n 0, 1) := by decide +kernel
theorem dX7_feedNumber_36 : decode cX7_feedNumber 36 = .ok (.dup, 1) := by decide +kernel
theorem dX7_feedNumber_37 : decode cX7_feedNumber 37 = .ok (.getfield 13, 3) := by decide +kernel
theorem dX7_feedNumber_40 : decode cX7_feedNumber 40 = .ok (.iconst 1, 1) := by decide +kernel
theorem dX7_feedNumber_41 : decode cX7_feedNumber 41 = .ok (.iadd, 1) := by decide +kernel
theorem dX7_feedNumber_42 : decode cX7_feedNumber 42 = .ok (.putfield 13, 3) := by decide +kernel
theorem dX7_feedNumber_45 : decode cX7_feedNumber 45 = .ok (.iinc 2 (-8), 3) := by decide +kernel
theorem dX7_feedNumber_48 : decode cX7_feedNumber 48 = .ok (.goto (-45), 3) := by decide +kernel
theorem dX7_feedNumber_51 : decode cX7_feedNumber 51 = .ok (.return_, 1) := by decide +kernel
theorem dX7_text_0 : decode cX7_text 0 = .ok (.iload_n 1, 1) := by decide +kernel
theorem dX7_text_1 : decode cX7_text 1 = .ok (.ifCond .lt 11, 3) := by decide +kernel
theorem dX7_text_4 : decode cX7_text 4 = .ok (.iload_n 1, 1) := by decide +kernel
theorem dX7_text_5 : decode cX7_text 5 = .ok (.aload_n 0, 1) := by decide +kernel
theorem dX7_text_6 : decode cX7_text 6 = .ok (.getfield 13, 3) := by decide +kernel
theorem dX7_text_9 : decode cX7_text 9 = .ok (.if_icmp .le 6, 3) := by decide +kernel
theorem dX7_text_12 : decode cX7_text 12 = .ok (.bipush (-2), 2) := by decide +kernel
theorem dX7_text_14 : decode cX7_text 14 = .ok (.ireturn, 1) := by decide +kernel
theorem dX7_text_15 : decode cX7_text 15 = .ok (.aload_n 0, 1) := by decide +kernel
theorem dX7_text_16 : decode cX7_text 16 = .ok (.iconst 0, 1) := by decide +kernel
theorem dX7_text_17 : decode cX7_text 17 = .ok (.putfield 13, 3) := by decide +kernel
theorem dX7_text_20 : decode cX7_text 20 = .ok (.aload_n 0, 1) := by decide +kernel
theorem dX7_text_21 : decode cX7_text 21 = .ok (.getfield 32, 3) := by decide +kernel
theorem dX7_text_24 : decode cX7_text 24 = .ok (.aload_n 0, 1) := by decide +kernel
theorem dX7_text_25 : decode cX7_text 25 = .ok (.getfield 24, 3) := by decide +kernel
theorem dX7_text_28 : decode cX7_text 28 = .ok (.iload_n 1, 1) := by decide +kernel
theorem dX7_text_29 : decode cX7_text 29 = .ok (.invokevirtual 69, 3) := by decide +kernel
theorem dX7_text_32 : decode cX7_text 32 = .ok (.iconst 0, 1) := by decide +kernel
theorem dX7_text_33 : decode cX7_text 33 = .ok (.istore_n 2, 1) := by decide +kernel
theorem dX7_text_34 : decode cX7_text 34 = .ok (.iload_n 2, 1) := by decide +kernel
theorem dX7_text_35 : decode cX7_text 35 = .ok (.iload_n 1, 1) := by decide +kernel
theorem dX7_text_36 : decode cX7_text 36 = .ok (.if_icmp .ge 31, 3) := by decide +kernel
theorem dX7_text_39 : decode cX7_text 39 = .ok (.aload_n 0, 1) := by decide +kernel
theorem dX7_text_40 : decode cX7_text 40 = .ok (.getfield 32, 3) := by decide +kernel
theorem dX7_text_43 : decode cX7_text 43 = .ok (.invokevirtual 73, 3) := by decide +kernel
theorem dX7_text_46 : decode cX7_text 46 = .ok (.ifCond .eq 21, 3) := by decide +kernel
theorem dX7_text_49 : decode cX7_text 49 = .ok (.aload_n 0, 1) := by decide +kernel
theorem dX7_text_50 : decode cX7_text 50 = .ok (.getfield 32, 3) := by decide +kernel
theorem dX7_text_53 : decode cX7_text 53 = .ok (.invokevirtual 77, 3) := by decide +kernel
theorem dX7_text_56 : decode cX7_text 56 = .ok (.ifCond .ne 5, 3) := by decide +kernel
theorem dX7_text_59 : decode cX7_text 59 = .ok (.iconst (-1), 1) := by decide +kernel
theorem dX7_text_60 : decode cX7_text 60 = .ok (.ireturn, 1) := by decide +kernel
theorem dX7_text_61 : decode cX7_text 61 = .ok (.iinc 2 1, 3) := by decide +kernel
theorem dX7_text_64 : decode cX7_text 64 = .ok (.goto (-30), 3) := by decide +kernel
theorem dX7_text_67 : decode cX7_text 67 = .ok (.aload_n 0, 1) := by decide +kernel
theorem dX7_text_68 : decode cX7_text 68 = .ok (.getfield 20, 3) := by decide +kernel
theorem dX7_text_71 : decode cX7_text 71 = .ok (.astore_n 2, 1) := by decide +kernel
theorem dX7_text_72 : decode cX7_text 72 = .ok (.aload_n 0, 1) := by decide +kernel
theorem dX7_text_73 : decode cX7_text 73 = .ok (.aload_n 0, 1) := by decide +kernel
theorem dX7_text_74 : decode cX7_text 74 = .ok (.getfield 24, 3) := by decide +kernel
theorem dX7_text_77 : decode cX7_text 77 = .ok (.putfield 20, 3) := by decide +kernel
theorem dX7_text_80 : decode cX7_text 80 = .ok (.aload_n 0, 1) := by decide +kernel
theorem dX7_text_81 : decode cX7_text 81 = .ok (.aload_n 2, 1) := by decide +kernel
theorem dX7_text_82 : decode cX7_text 82 = .ok (.putfield 24, 3) := by decide +kernel
theorem dX7_text_85 : decode cX7_text 85 = .ok (.aload_n 0, 1) := by decide +kernel
theorem dX7_text_86 : decode cX7_text 86 = .ok (.getfield 39, 3) := by decide +kernel
theorem dX7_text_89 : decode cX7_text 89 = .ok (.aload_n 0, 1) := by decide +kernel
theorem dX7_text_90 : decode cX7_text 90 = .ok (.getfield 20, 3) := by decide +kernel
theorem dX7_text_93 : decode cX7_text 93 = .ok (.invokevirtual 80, 3) := by decide +kernel
theorem dX7_text_96 : decode cX7_text 96 = .ok (.aload_n 0, 1) := by decide +kernel
theorem dX7_text_97 : decode cX7_text 97 = .ok (.getfield 20, 3) := by decide +kernel
theorem dX7_text_100 : decode cX7_text 100 = .ok (.getfield 82, 3) := by decide +kernel
theorem dX7_text_103 : decode cX7_text 103 = .ok (.ireturn, 1) := by decide +kernel
theorem dX7_isCarrier_0 : decode cX7_isCarrier 0 = .ok (.iload_n 1, 1) := by decide +kernel
theorem dX7_isCarrier_1 : decode cX7_isCarrier 1 = .ok (.ifCond .lt 18, 3) := by decide +kernel
theorem dX7_isCarrier_4 : decode cX7_isCarrier 4 = .ok (.iload_n 1, 1) := by decide +kernel
theorem dX7_isCarrier_5 : decode cX7_isCarrier 5 = .ok (.aload_n 0, 1) := by decide +kernel
theorem dX7_isCarrier_6 : decode cX7_isCarrier 6 = .ok (.getfield 20, 3) := by decide +kernel
theorem dX7_isCarrier_9 : decode cX7_isCarrier 9 = .ok (.getfield 94, 3) := by decide +kernel
theorem dX7_isCarrier_12 : decode cX7_isCarrier 12 = .ok (.if_icmp .ge 7, 3) := by decide +kernel
theorem dX7_isCarrier_15 : decode cX7_isCarrier 15 = .ok (.iconst 1, 1) := by decide +kernel
theorem dX7_isCarrier_16 : decode cX7_isCarrier 16 = .ok (.goto 4, 3) := by decide +kernel
theorem dX7_isCarrier_19 : decode cX7_isCarrier 19 = .ok (.iconst 0, 1) := by decide +kernel
theorem dX7_isCarrier_20 : decode cX7_isCarrier 20 = .ok (.ireturn, 1) := by decide +kernel
theorem dX7_isProviso_0 : decode cX7_isProviso 0 = .ok (.iload_n 1, 1) := by decide +kernel
theorem dX7_isProviso_1 : decode cX7_isProviso 1 = .ok (.ifCond .lt 18, 3) := by decide +kernel
theorem dX7_isProviso_4 : decode cX7_isProviso 4 = .ok (.iload_n 1, 1) := by decide +kernel
theorem dX7_isProviso_5 : decode cX7_isProviso 5 = .ok (.aload_n 0, 1) := by decide +kernel
theorem dX7_isProviso_6 : decode cX7_isProviso 6 = .ok (.getfield 20, 3) := by decide +kernel
theorem dX7_isProviso_9 : decode cX7_isProviso 9 = .ok (.getfield 97, 3) := by decide +kernel
theorem dX7_isProviso_12 : decode cX7_isProviso 12 = .ok (.if_icmp .ge 7, 3) := by decide +kernel
theorem dX7_isProviso_15 : decode cX7_isProviso 15 = .ok (.iconst 1, 1) := by decide +kernel
theorem dX7_isProviso_16 : decode cX7_isProviso 16 = .ok (.goto 4, 3) := by decide +kernel
theorem dX7_isProviso_19 : decode cX7_isProviso 19 = .ok (.iconst 0, 1) := by decide +kernel
theorem dX7_isProviso_20 : decode cX7_isProviso 20 = .ok (.ireturn, 1) := by decide +kernel
theorem dX7_isTicket_0 : decode cX7_isTicket 0 = .ok (.iload_n 1, 1) := by decide +kernel
theorem dX7_isTicket_1 : decode cX7_isTicket 1 = .ok (.ifCond .lt 18, 3) := by decide +kernel
theorem dX7_isTicket_4 : decode cX7_isTicket 4 = .ok (.iload_n 1, 1) := by decide +kernel
theorem dX7_isTicket_5 : decode cX7_isTicket 5 = .ok (.aload_n 0, 1) := by decide +kernel
theorem dX7_isTicket_6 : decode cX7_isTicket 6 = .ok (.getfield 20, 3) := by decide +kernel
theorem dX7_isTicket_9 : decode cX7_isTicket 9 = .ok (.getfield 100, 3) := by decide +kernel
theorem dX7_isTicket_12 : decode cX7_isTicket 12 = .ok (.if_icmp .ge 7, 3) := by decide +kernel
theorem dX7_isTicket_15 : decode cX7_isTicket 15 = .ok (.iconst 1, 1) := by decide +kernel
theorem dX7_isTicket_16 : decode cX7_isTicket 16 = .ok (.goto 4, 3) := by decide +kernel
theorem dX7_isTicket_19 : decode cX7_isTicket 19 = .ok (.iconst 0, 1) := by decide +kernel
theorem dX7_isTicket_20 : decode cX7_isTicket 20 = .ok (.ireturn, 1) := by decide +kernel
theorem dX7_isCoupon_0 : decode cX7_isCoupon 0 = .ok (.aload_n 0, 1) := by decide +kernel
theorem dX7_isCoupon_1 : decode cX7_isCoupon 1 = .ok (.iload_n 1, 1) := by decide +kernel
theorem dX7_isCoupon_2 : decode cX7_isCoupon 2 = .ok (.invokevirtual 103, 3) := by decide +kernel
theorem dX7_isCoupon_5 : decode cX7_isCoupon 5 = .ok (.ifCond .eq 23, 3) := by decide +kernel
theorem dX7_isCoupon_8 : decode cX7_isCoupon 8 = .ok (.iload_n 2, 1) := by decide +kernel
theorem dX7_isCoupon_9 : decode cX7_isCoupon 9 = .ok (.ifCond .lt 19, 3) := by decide +kernel
theorem dX7_isCoupon_12 : decode cX7_isCoupon 12 = .ok (.iload_n 2, 1) := by decide +kernel
theorem dX7_isCoupon_13 : decode cX7_isCoupon 13 = .ok (.aload_n 0, 1) := by decide +kernel
theorem dX7_isCoupon_14 : decode cX7_isCoupon 14 = .ok (.getfield 20, 3) := by decide +kernel
theorem dX7_isCoupon_17 : decode cX7_isCoupon 17 = .ok (.iload_n 1, 1) := by decide +kernel
theorem dX7_isCoupon_18 : decode cX7_isCoupon 18 = .ok (.invokevirtual 107, 3) := by decide +kernel
theorem dX7_isCoupon_21 : decode cX7_isCoupon 21 = .ok (.if_icmp .ge 7, 3) := by decide +kernel
theorem dX7_isCoupon_24 : decode cX7_isCoupon 24 = .ok (.iconst 1, 1) := by decide +kernel
theorem dX7_isCoupon_25 : decode cX7_isCoupon 25 = .ok (.goto 4, 3) := by decide +kernel
theorem dX7_isCoupon_28 : decode cX7_isCoupon 28 = .ok (.iconst 0, 1) := by decide +kernel
theorem dX7_isCoupon_29 : decode cX7_isCoupon 29 = .ok (.ireturn, 1) := by decide +kernel
theorem dX7_ticket_0 : decode cX7_ticket 0 = .ok (.aload_n 0, 1) := by decide +kernel
theorem dX7_ticket_1 : decode cX7_ticket 1 = .ok (.iload_n 1, 1) := by decide +kernel
theorem dX7_ticket_2 : decode cX7_ticket 2 = .ok (.invokevirtual 103, 3) := by decide +kernel
theorem dX7_ticket_5 : decode cX7_ticket 5 = .ok (.ifCond .ne 13, 3) := by decide +kernel
theorem dX7_ticket_8 : decode cX7_ticket 8 = .ok (.new 140, 3) := by decide +kernel
theorem dX7_ticket_11 : decode cX7_ticket 11 = .ok (.dup, 1) := by decide +kernel
theorem dX7_ticket_12 : decode cX7_ticket 12 = .ok (.ldc 167, 2) := by decide +kernel
theorem dX7_ticket_14 : decode cX7_ticket 14 = .ok (.invokespecial 144, 3) := by decide +kernel
theorem dX7_ticket_17 : decode cX7_ticket 17 = .ok (.athrow, 1) := by decide +kernel
theorem dX7_ticket_18 : decode cX7_ticket 18 = .ok (.iload_n 2, 1) := by decide +kernel
theorem dX7_ticket_19 : decode cX7_ticket 19 = .ok (.tableswitch 122 0 7 #[45, 54, 63, 72, 82, 92, 110, 116], 45) := by decide +kernel
theorem dX7_ticket_64 : decode cX7_ticket 64 = .ok (.aload_n 0, 1) := by decide +kernel
theorem dX7_ticket_65 : decode cX7_ticket 65 = .ok (.getfield 20, 3) := by decide +kernel
theorem dX7_ticket_68 : decode cX7_ticket 68 = .ok (.iload_n 1, 1) := by decide +kernel
theorem dX7_ticket_69 : decode cX7_ticket 69 = .ok (.invokevirtual 169, 3) := by decide +kernel
theorem dX7_ticket_72 : decode cX7_ticket 72 = .ok (.ireturn, 1) := by decide +kernel
theorem dX7_ticket_73 : decode cX7_ticket 73 = .ok (.aload_n 0, 1) := by decide +kernel
theorem dX7_ticket_74 : decode cX7_ticket 74 = .ok (.getfield 20, 3) := by decide +kernel
theorem dX7_ticket_77 : decode cX7_ticket 77 = .ok (.iload_n 1, 1) := by decide +kernel
theorem dX7_ticket_78 : decode cX7_ticket 78 = .ok (.invokevirtual 172, 3) := by decide +kernel
theorem dX7_ticket_81 : decode cX7_ticket 81 = .ok (.ireturn, 1) := by decide +kernel
theorem dX7_ticket_82 : decode cX7_ticket 82 = .ok (.aload_n 0, 1) := by decide +kernel
theorem dX7_ticket_83 : decode cX7_ticket 83 = .ok (.getfield 20, 3) := by decide +kernel
theorem dX7_ticket_86 : decode cX7_ticket 86 = .ok (.iload_n 1, 1) := by decide +kernel
theorem dX7_ticket_87 : decode cX7_ticket 87 = .ok (.invokevirtual 107, 3) := by decide +kernel
theorem dX7_ticket_90 : decode cX7_ticket 90 = .ok (.ireturn, 1) := by decide +kernel
theorem dX7_ticket_91 : decode cX7_ticket 91 = .ok (.aload_n 0, 1) := by decide +kernel
theorem dX7_ticket_92 : decode cX7_ticket 92 = .ok (.getfield 39, 3) := by decide +kernel
theorem dX7_ticket_95 : decode cX7_ticket 95 = .ok (.getfield 175, 3) := by decide +kernel
theorem dX7_ticket_98 : decode cX7_ticket 98 = .ok (.iload_n 1, 1) := by decide +kernel
theorem dX7_ticket_99 : decode cX7_ticket 99 = .ok (.iaload, 1) := by decide +kernel
theorem dX7_ticket_100 : decode cX7_ticket 100 = .ok (.ireturn, 1) := by decide +kernel
theorem dX7_ticket_101 : decode cX7_ticket 101 = .ok (.aload_n 0, 1) := by decide +kernel
theorem dX7_ticket_102 : decode cX7_ticket 102 = .ok (.getfield 39, 3) := by decide +kernel
theorem dX7_ticket_105 : decode cX7_ticket 105 = .ok (.getfield 178, 3) := by decide +kernel
theorem dX7_ticket_108 : decode cX7_ticket 108 = .ok (.iload_n 1, 1) := by decide +kernel
theorem dX7_ticket_109 : decode cX7_ticket 109 = .ok (.iaload, 1) := by decide +kernel
theorem dX7_ticket_110 : decode cX7_ticket 110 = .ok (.ireturn, 1) := by decide +kernel
theorem dX7_ticket_111 : decode cX7_ticket 111 = .ok (.aload_n 0, 1) := by decide +kernel
theorem dX7_ticket_112 : decode cX7_ticket 112 = .ok (.getfield 39, 3) := by decide +kernel
theorem dX7_ticket_115 : decode cX7_ticket 115 = .ok (.getfield 181, 3) := by decide +kernel
theorem dX7_ticket_118 : decode cX7_ticket 118 = .ok (.iload_n 1, 1) := by decide +kernel
theorem dX7_ticket_119 : decode cX7_ticket 119 = .ok (.baload, 1) := by decide +kernel
theorem dX7_ticket_120 : decode cX7_ticket 120 = .ok (.ifCond .eq 7, 3) := by decide +kernel
theorem dX7_ticket_123 : decode cX7_ticket 123 = .ok (.iconst 1, 1) := by decide +kernel
theorem dX7_ticket_124 : decode cX7_ticket 124 = .ok (.goto 4, 3) := by decide +kernel
theorem dX7_ticket_127 : decode cX7_ticket 127 = .ok (.iconst 0, 1) := by decide +kernel
theorem dX7_ticket_128 : decode cX7_ticket 128 = .ok (.ireturn, 1) := by decide +kernel
theorem dX7_ticket_129 : decode cX7_ticket 129 = .ok (.aload_n 0, 1) := by decide +kernel
theorem dX7_ticket_130 : decode cX7_ticket 130 = .ok (.iload_n 1, 1) := by decide +kernel
theorem dX7_ticket_131 : decode cX7_ticket 131 = .ok (.invokevirtual 185, 3) := by decide +kernel
theorem dX7_ticket_134 : decode cX7_ticket 134 = .ok (.ireturn, 1) := by decide +kernel
theorem dX7_ticket_135 : decode cX7_ticket 135 = .ok (.aload_n 0, 1) := by decide +kernel
theorem dX7_ticket_136 : decode cX7_ticket 136 = .ok (.iload_n 1, 1) := by decide +kernel
theorem dX7_ticket_137 : decode cX7_ticket 137 = .ok (.invokevirtual 188, 3) := by decide +kernel
theorem dX7_ticket_140 : decode cX7_ticket 140 = .ok (.ireturn, 1) := by decide +kernel
theorem dX7_ticket_141 : decode cX7_ticket 141 = .ok (.new 147, 3) := by decide +kernel
theorem dX7_ticket_144 : decode cX7_ticket 144 = .ok (.dup, 1) := by decide +kernel
theorem dX7_ticket_145 : decode cX7_ticket 145 = .ok (.ldc 149, 2) := by decide +kernel
theorem dX7_ticket_147 : decode cX7_ticket 147 = .ok (.invokespecial 151, 3) := by decide +kernel
theorem dX7_ticket_150 : decode cX7_ticket 150 = .ok (.athrow, 1) := by decide +kernel
theorem dX7_milesTogether_0 : decode cX7_milesTogether 0 = .ok (.iconst 0, 1) := by decide +kernel
theorem dX7_milesTogether_1 : decode cX7_milesTogether 1 = .ok (.istore_n 2, 1) := by decide +kernel
theorem dX7_milesTogether_2 : decode cX7_milesTogether 2 = .ok (.iconst 0, 1) := by decide +kernel
theorem dX7_milesTogether_3 : decode cX7_milesTogether 3 = .ok (.istore_n 3, 1) := by decide +kernel
theorem dX7_milesTogether_4 : decode cX7_milesTogether 4 = .ok (.iload_n 3, 1) := by decide +kernel
theorem dX7_milesTogether_5 : decode cX7_milesTogether 5 = .ok (.aload_n 0, 1) := by decide +kernel
theorem dX7_milesTogether_6 : decode cX7_milesTogether 6 = .ok (.getfield 20, 3) := by decide +kernel
theorem dX7_milesTogether_9 : decode cX7_milesTogether 9 = .ok (.iload_n 1, 1) := by decide +kernel
theorem dX7_milesTogether_10 : decode cX7_milesTogether 10 = .ok (.invokevirtual 107, 3) := by decide +kernel
theorem dX7_milesTogether_13 : decode cX7_milesTogether 13 = .ok (.if_icmp .ge 21, 3) := by decide +kernel
theorem dX7_milesTogether_16 : decode cX7_milesTogether 16 = .ok (.iload_n 2, 1) := by decide +kernel
theorem dX7_milesTogether_17 : decode cX7_milesTogether 17 = .ok (.aload_n 0, 1) := by decide +kernel
theorem dX7_milesTogether_18 : decode cX7_milesTogether 18 = .ok (.getfield 20, 3) := by decide +kernel
theorem dX7_milesTogether_21 : decode cX7_milesTogether 21 = .ok (.iload_n 1, 1) := by decide +kernel
theorem dX7_milesTogether_22 : decode cX7_milesTogether 22 = .ok (.iload_n 3, 1) := by decide +kernel
theorem dX7_milesTogether_23 : decode cX7_milesTogether 23 = .ok (.invokevirtual 191, 3) := by decide +kernel
theorem dX7_milesTogether_26 : decode cX7_milesTogether 26 = .ok (.iadd, 1) := by decide +kernel
theorem dX7_milesTogether_27 : decode cX7_milesTogether 27 = .ok (.istore_n 2, 1) := by decide +kernel
theorem dX7_milesTogether_28 : decode cX7_milesTogether 28 = .ok (.iinc 3 1, 3) := by decide +kernel
theorem dX7_milesTogether_31 : decode cX7_milesTogether 31 = .ok (.goto (-27), 3) := by decide +kernel
theorem dX7_milesTogether_34 : decode cX7_milesTogether 34 = .ok (.iload_n 2, 1) := by decide +kernel
theorem dX7_milesTogether_35 : decode cX7_milesTogether 35 = .ok (.ireturn, 1) := by decide +kernel
theorem dX7_flownTogether_0 : decode cX7_flownTogether 0 = .ok (.iconst 0, 1) := by decide +kernel
theorem dX7_flownTogether_1 : decode cX7_flownTogether 1 = .ok (.istore_n 2, 1) := by decide +kernel
theorem dX7_flownTogether_2 : decode cX7_flownTogether 2 = .ok (.iconst 0, 1) := by decide +kernel
theorem dX7_flownTogether_3 : decode cX7_flownTogether 3 = .ok (.istore_n 3, 1) := by decide +kernel
theorem dX7_flownTogether_4 : decode cX7_flownTogether 4 = .ok (.iload_n 3, 1) := by decide +kernel
theorem dX7_flownTogether_5 : decode cX7_flownTogether 5 = .ok (.aload_n 0, 1) := by decide +kernel
theorem dX7_flownTogether_6 : decode cX7_flownTogether 6 = .ok (.getfield 39, 3) := by decide +kernel
theorem dX7_flownTogether_9 : decode cX7_flownTogether 9 = .ok (.getfield 175, 3) := by decide +kernel
theorem dX7_flownTogether_12 : decode cX7_flownTogether 12 = .ok (.iload_n 1, 1) := by decide +kernel
theorem dX7_flownTogether_13 : decode cX7_flownTogether 13 = .ok (.iaload, 1) := by decide +kernel
theorem dX7_flownTogether_14 : decode cX7_flownTogether 14 = .ok (.if_icmp .ge 23, 3) := by decide +kernel
theorem dX7_flownTogether_17 : decode cX7_flownTogether 17 = .ok (.iload_n 2, 1) := by decide +kernel
theorem dX7_flownTogether_18 : decode cX7_flownTogether 18 = .ok (.aload_n 0, 1) := by decide +kernel
theorem dX7_flownTogether_19 : decode cX7_flownTogether 19 = .ok (.getfield 39, 3) := by decide +kernel
theorem dX7_flownTogether_22 : decode cX7_flownTogether 22 = .ok (.getfield 194, 3) := by decide +kernel
theorem dX7_flownTogether_25 : decode cX7_flownTogether 25 = .ok (.iload_n 1, 1) := by decide +kernel
theorem dX7_flownTogether_26 : decode cX7_flownTogether 26 = .ok (.aaload, 1) := by decide +kernel
theorem dX7_flownTogether_27 : decode cX7_flownTogether 27 = .ok (.iload_n 3, 1) := by decide +kernel
theorem dX7_flownTogether_28 : decode cX7_flownTogether 28 = .ok (.iaload, 1) := by decide +kernel
theorem dX7_flownTogether_29 : decode cX7_flownTogether 29 = .ok (.iadd, 1) := by decide +kernel
theorem dX7_flownTogether_30 : decode cX7_flownTogether 30 = .ok (.istore_n 2, 1) := by decide +kernel
theorem dX7_flownTogether_31 : decode cX7_flownTogether 31 = .ok (.iinc 3 1, 3) := by decide +kernel
theorem dX7_flownTogether_34 : decode cX7_flownTogether 34 = .ok (.goto (-30), 3) := by decide +kernel
theorem dX7_flownTogether_37 : decode cX7_flownTogether 37 = .ok (.iload_n 2, 1) := by decide +kernel
theorem dX7_flownTogether_38 : decode cX7_flownTogether 38 = .ok (.ireturn, 1) := by decide +kernel
theorem dX7_coupon_0 : decode cX7_coupon 0 = .ok (.aload_n 0, 1) := by decide +kernel
theorem dX7_coupon_1 : decode cX7_coupon 1 = .ok (.iload_n 1, 1) := by decide +kernel
theorem dX7_coupon_2 : decode cX7_coupon 2 = .ok (.iload_n 2, 1) := by decide +kernel
theorem dX7_coupon_3 : decode cX7_coupon 3 = .ok (.invokevirtual 197, 3) := by decide +kernel
theorem dX7_coupon_6 : decode cX7_coupon 6 = .ok (.ifCond .ne 5, 3) := by decide +kernel
theorem dX7_coupon_9 : decode cX7_coupon 9 = .ok (.iconst (-1), 1) := by decide +kernel
theorem dX7_coupon_10 : decode cX7_coupon 10 = .ok (.ireturn, 1) := by decide +kernel
theorem dX7_coupon_11 : decode cX7_coupon 11 = .ok (.aload_n 0, 1) := by decide +kernel
theorem dX7_coupon_12 : decode cX7_coupon 12 = .ok (.iload_n 1, 1) := by decide +kernel
theorem dX7_coupon_13 : decode cX7_coupon 13 = .ok (.invokevirtual 158, 3) := by decide +kernel
theorem dX7_coupon_16 : decode cX7_coupon 16 = .ok (.iload_n 3, 1) := by decide +kernel
theorem dX7_coupon_17 : decode cX7_coupon 17 = .ok (.tableswitch 163 0 7 #[47, 59, 71, 85, 95, 106, 125, 135], 47) := by decide +kernel
theorem dX7_coupon_64 : decode cX7_coupon 64 = .ok (.aload_n 0, 1) := by decide +kernel
theorem dX7_coupon_65 : decode cX7_coupon 65 = .ok (.getfield 39, 3) := by decide +kernel
theorem dX7_coupon_68 : decode cX7_coupon 68 = .ok (.getfield 200, 3) := by decide +kernel
theorem dX7_coupon_71 : decode cX7_coupon 71 = .ok (.iload_n 1, 1) := by decide +kernel
theorem dX7_coupon_72 : decode cX7_coupon 72 = .ok (.aaload, 1) := by decide +kernel
theorem dX7_coupon_73 : decode cX7_coupon 73 = .ok (.iload_n 2, 1) := by decide +kernel
theorem dX7_coupon_74 : decode cX7_coupon 74 = .ok (.iaload, 1) := by decide +kernel
theorem dX7_coupon_75 : decode cX7_coupon 75 = .ok (.ireturn, 1) := by decide +kernel
theorem dX7_coupon_76 : decode cX7_coupon 76 = .ok (.aload_n 0, 1) := by decide +kernel
theorem dX7_coupon_77 : decode cX7_coupon 77 = .ok (.getfield 20, 3) := by decide +kernel
theorem dX7_coupon_80 : decode cX7_coupon 80 = .ok (.getfield 202, 3) := by decide +kernel
theorem dX7_coupon_83 : decode cX7_coupon 83 = .ok (.iload_n 1, 1) := by decide +kernel
theorem dX7_coupon_84 : decode cX7_coupon 84 = .ok (.aaload, 1) := by decide +kernel
theorem dX7_coupon_85 : decode cX7_coupon 85 = .ok (.iload_n 2, 1) := by decide +kernel
theorem dX7_coupon_86 : decode cX7_coupon 86 = .ok (.iaload, 1) := by decide +kernel
theorem dX7_coupon_87 : decode cX7_coupon 87 = .ok (.ireturn, 1) := by decide +kernel
theorem dX7_coupon_88 : decode cX7_coupon 88 = .ok (.aload_n 0, 1) := by decide +kernel
theorem dX7_coupon_89 : decode cX7_coupon 89 = .ok (.getfield 20, 3) := by decide +kernel
theorem dX7_coupon_92 : decode cX7_coupon 92 = .ok (.getfield 202, 3) := by decide +kernel
theorem dX7_coupon_95 : decode cX7_coupon 95 = .ok (.iload_n 1, 1) := by decide +kernel
theorem dX7_coupon_96 : decode cX7_coupon 96 = .ok (.aaload, 1) := by decide +kernel
theorem dX7_coupon_97 : decode cX7_coupon 97 = .ok (.iload_n 2, 1) := by decide +kernel
theorem dX7_coupon_98 : decode cX7_coupon 98 = .ok (.iconst 1, 1) := by decide +kernel
theorem dX7_coupon_99 : decode cX7_coupon 99 = .ok (.iadd, 1) := by decide +kernel
theorem dX7_coupon_100 : decode cX7_coupon 100 = .ok (.iaload, 1) := by decide +kernel
theorem dX7_coupon_101 : decode cX7_coupon 101 = .ok (.ireturn, 1) := by decide +kernel
theorem dX7_coupon_102 : decode cX7_coupon 102 = .ok (.aload_n 0, 1) := by decide +kernel
theorem dX7_coupon_103 : decode cX7_coupon 103 = .ok (.getfield 20, 3) := by decide +kernel
theorem dX7_coupon_106 : decode cX7_coupon 106 = .ok (.iload_n 1, 1) := by decide +kernel
theorem dX7_coupon_107 : decode cX7_coupon 107 = .ok (.iload_n 2, 1) := by decide +kernel
theorem dX7_coupon_108 : decode cX7_coupon 108 = .ok (.invokevirtual 191, 3) := by decide +kernel
theorem dX7_coupon_111 : decode cX7_coupon 111 = .ok (.ireturn, 1) := by decide +kernel
theorem dX7_coupon_112 : decode cX7_coupon 112 = .ok (.aload_n 0, 1) := by decide +kernel
theorem dX7_coupon_113 : decode cX7_coupon 113 = .ok (.getfield 48, 3) := by decide +kernel
theorem dX7_coupon_116 : decode cX7_coupon 116 = .ok (.getfield 205, 3) := by decide +kernel
theorem dX7_coupon_119 : decode cX7_coupon 119 = .ok (.iload_n 2, 1) := by decide +kernel
theorem dX7_coupon_120 : decode cX7_coupon 120 = .ok (.laload, 1) := by decide +kernel
theorem dX7_coupon_121 : decode cX7_coupon 121 = .ok (.l2i, 1) := by decide +kernel
theorem dX7_coupon_122 : decode cX7_coupon 122 = .ok (.ireturn, 1) := by decide +kernel
theorem dX7_coupon_123 : decode cX7_coupon 123 = .ok (.iload_n 2, 1) := by decide +kernel
theorem dX7_coupon_124 : decode cX7_coupon 124 = .ok (.aload_n 0, 1) := by decide +kernel
theorem dX7_coupon_125 : decode cX7_coupon 125 = .ok (.getfield 39, 3) := by decide +kernel
theorem dX7_coupon_128 : decode cX7_coupon 128 = .ok (.getfield 175, 3) := by decide +kernel
theorem dX7_coupon_131 : decode cX7_coupon 131 = .ok (.iload_n 1, 1) := by decide +kernel
theorem dX7_coupon_132 : decode cX7_coupon 132 = .ok (.iaload, 1) := by decide +kernel
theorem dX7_coupon_133 : decode cX7_coupon 133 = .ok (.if_icmp .ge 7, 3) := by decide +kernel
theorem dX7_coupon_136 : decode cX7_coupon 136 = .ok (.iconst 1, 1) := by decide +kernel
theorem dX7_coupon_137 : decode cX7_coupon 137 = .ok (.goto 4, 3) := by decide +kernel
theorem dX7_coupon_140 : decode cX7_coupon 140 = .ok (.iconst 0, 1) := by decide +kernel
theorem dX7_coupon_141 : decode cX7_coupon 141 = .ok (.ireturn, 1) := by decide +kernel
theorem dX7_coupon_142 : decode cX7_coupon 142 = .ok (.aload_n 0, 1) := by decide +kernel
theorem dX7_coupon_143 : decode cX7_coupon 143 = .ok (.getfield 48, 3) := by decide +kernel
theorem dX7_coupon_146 : decode cX7_coupon 146 = .ok (.getfield 209, 3) := by decide +kernel
theorem dX7_coupon_149 : decode cX7_coupon 149 = .ok (.iload_n 2, 1) := by decide +kernel
theorem dX7_coupon_150 : decode cX7_coupon 150 = .ok (.iaload, 1) := by decide +kernel
theorem dX7_coupon_151 : decode cX7_coupon 151 = .ok (.ireturn, 1) := by decide +kernel
theorem dX7_coupon_152 : decode cX7_coupon 152 = .ok (.aload_n 0, 1) := by decide +kernel
theorem dX7_coupon_153 : decode cX7_coupon 153 = .ok (.getfield 48, 3) := by decide +kernel
theorem dX7_coupon_156 : decode cX7_coupon 156 = .ok (.getfield 164, 3) := by decide +kernel
theorem dX7_coupon_159 : decode cX7_coupon 159 = .ok (.iload_n 2, 1) := by decide +kernel
theorem dX7_coupon_160 : decode cX7_coupon 160 = .ok (.iaload, 1) := by decide +kernel
theorem dX7_coupon_161 : decode cX7_coupon 161 = .ok (.iconst (-1), 1) := by decide +kernel
theorem dX7_coupon_162 : decode cX7_coupon 162 = .ok (.if_icmp .ne 8, 3) := by decide +kernel
theorem dX7_coupon_165 : decode cX7_coupon 165 = .ok (.bipush (-2), 2) := by decide +kernel
theorem dX7_coupon_167 : decode cX7_coupon 167 = .ok (.goto 12, 3) := by decide +kernel
theorem dX7_coupon_170 : decode cX7_coupon 170 = .ok (.aload_n 0, 1) := by decide +kernel
theorem dX7_coupon_171 : decode cX7_coupon 171 = .ok (.getfield 48, 3) := by decide +kernel
theorem dX7_coupon_174 : decode cX7_coupon 174 = .ok (.getfield 164, 3) := by decide +kernel
theorem dX7_coupon_177 : decode cX7_coupon 177 = .ok (.iload_n 2, 1) := by decide +kernel
theorem dX7_coupon_178 : decode cX7_coupon 178 = .ok (.iaload, 1) := by decide +kernel
theorem dX7_coupon_179 : decode cX7_coupon 179 = .ok (.ireturn, 1) := by decide +kernel
theorem dX7_coupon_180 : decode cX7_coupon 180 = .ok (.iconst (-1), 1) := by decide +kernel
theorem dX7_coupon_181 : decode cX7_coupon 181 = .ok (.ireturn, 1) := by decide +kernel
theorem dX7_prorateNow_0 : decode cX7_prorateNow 0 = .ok (.aload_n 0, 1) := by decide +kernel
theorem dX7_prorateNow_1 : decode cX7_prorateNow 1 = .ok (.getfield 48, 3) := by decide +kernel
theorem dX7_prorateNow_4 : decode cX7_prorateNow 4 = .ok (.aload_n 0, 1) := by decide +kernel
theorem dX7_prorateNow_5 : decode cX7_prorateNow 5 = .ok (.getfield 20, 3) := by decide +kernel
theorem dX7_prorateNow_8 : decode cX7_prorateNow 8 = .ok (.aload_n 0, 1) := by decide +kernel
theorem dX7_prorateNow_9 : decode cX7_prorateNow 9 = .ok (.getfield 39, 3) := by decide +kernel
theorem dX7_prorateNow_12 : decode cX7_prorateNow 12 = .ok (.iload_n 1, 1) := by decide +kernel
theorem dX7_prorateNow_13 : decode cX7_prorateNow 13 = .ok (.invokevirtual 212, 3) := by decide +kernel
theorem dX7_prorateNow_16 : decode cX7_prorateNow 16 = .ok (.aload_n 0, 1) := by decide +kernel
theorem dX7_prorateNow_17 : decode cX7_prorateNow 17 = .ok (.getfield 48, 3) := by decide +kernel
theorem dX7_prorateNow_20 : decode cX7_prorateNow 20 = .ok (.invokevirtual 216, 3) := by decide +kernel
theorem dX7_prorateNow_23 : decode cX7_prorateNow 23 = .ok (.return_, 1) := by decide +kernel
theorem dX7_prorateStraight_0 : decode cX7_prorateStraight 0 = .ok (.aload_n 0, 1) := by decide +kernel
theorem dX7_prorateStraight_1 : decode cX7_prorateStraight 1 = .ok (.getfield 48, 3) := by decide +kernel
theorem dX7_prorateStraight_4 : decode cX7_prorateStraight 4 = .ok (.aload_n 0, 1) := by decide +kernel
theorem dX7_prorateStraight_5 : decode cX7_prorateStraight 5 = .ok (.getfield 20, 3) := by decide +kernel
theorem dX7_prorateStraight_8 : decode cX7_prorateStraight 8 = .ok (.aload_n 0, 1) := by decide +kernel
theorem dX7_prorateStraight_9 : decode cX7_prorateStraight 9 = .ok (.getfield 39, 3) := by decide +kernel
theorem dX7_prorateStraight_12 : decode cX7_prorateStraight 12 = .ok (.iload_n 1, 1) := by decide +kernel
theorem dX7_prorateStraight_13 : decode cX7_prorateStraight 13 = .ok (.invokevirtual 212, 3) := by decide +kernel
theorem dX7_prorateStraight_16 : decode cX7_prorateStraight 16 = .ok (.aload_n 0, 1) := by decide +kernel
theorem dX7_prorateStraight_17 : decode cX7_prorateStraight 17 = .ok (.getfield 48, 3) := by decide +kernel
theorem dX7_prorateStraight_20 : decode cX7_prorateStraight 20 = .ok (.invokevirtual 219, 3) := by decide +kernel
theorem dX7_prorateStraight_23 : decode cX7_prorateStraight 23 = .ok (.aload_n 0, 1) := by decide +kernel
theorem dX7_prorateStraight_24 : decode cX7_prorateStraight 24 = .ok (.getfield 48, 3) := by decide +kernel
theorem dX7_prorateStraight_27 : decode cX7_prorateStraight 27 = .ok (.invokevirtual 216, 3) := by decide +kernel
theorem dX7_prorateStraight_30 : decode cX7_prorateStraight 30 = .ok (.return_, 1) := by decide +kernel
theorem dX7_prorateWithout_0 : decode cX7_prorateWithout 0 = .ok (.aload_n 0, 1) := by decide +kernel
theorem dX7_prorateWithout_1 : decode cX7_prorateWithout 1 = .ok (.getfield 48, 3) := by decide +kernel
theorem dX7_prorateWithout_4 : decode cX7_prorateWithout 4 = .ok (.aload_n 0, 1) := by decide +kernel
theorem dX7_prorateWithout_5 : decode cX7_prorateWithout 5 = .ok (.getfield 20, 3) := by decide +kernel
theorem dX7_prorateWithout_8 : decode cX7_prorateWithout 8 = .ok (.aload_n 0, 1) := by decide +kernel
theorem dX7_prorateWithout_9 : decode cX7_prorateWithout 9 = .ok (.getfield 39, 3) := by decide +kernel
theorem dX7_prorateWithout_12 : decode cX7_prorateWithout 12 = .ok (.iload_n 2, 1) := by decide +kernel
theorem dX7_prorateWithout_13 : decode cX7_prorateWithout 13 = .ok (.invokevirtual 212, 3) := by decide +kernel
theorem dX7_prorateWithout_16 : decode cX7_prorateWithout 16 = .ok (.aload_n 0, 1) := by decide +kernel
theorem dX7_prorateWithout_17 : decode cX7_prorateWithout 17 = .ok (.getfield 48, 3) := by decide +kernel
theorem dX7_prorateWithout_20 : decode cX7_prorateWithout 20 = .ok (.iload_n 1, 1) := by decide +kernel
theorem dX7_prorateWithout_21 : decode cX7_prorateWithout 21 = .ok (.putfield 222, 3) := by decide +kernel
theorem dX7_prorateWithout_24 : decode cX7_prorateWithout 24 = .ok (.aload_n 0, 1) := by decide +kernel
theorem dX7_prorateWithout_25 : decode cX7_prorateWithout 25 = .ok (.getfield 48, 3) := by decide +kernel
theorem dX7_prorateWithout_28 : decode cX7_prorateWithout 28 = .ok (.invokevirtual 216, 3) := by decide +kernel
theorem dX7_prorateWithout_31 : decode cX7_prorateWithout 31 = .ok (.return_, 1) := by decide +kernel
theorem dX7_shareNow_0 : decode cX7_shareNow 0 = .ok (.aload_n 0, 1) := by decide +kernel
theorem dX7_shareNow_1 : decode cX7_shareNow 1 = .ok (.iload_n 1, 1) := by decide +kernel
theorem dX7_shareNow_2 : decode cX7_shareNow 2 = .ok (.invokevirtual 158, 3) := by decide +kernel
theorem dX7_shareNow_5 : decode cX7_shareNow 5 = .ok (.aload_n 0, 1) := by decide +kernel
theorem dX7_shareNow_6 : decode cX7_shareNow 6 = .ok (.getfield 48, 3) := by decide +kernel
theorem dX7_shareNow_9 : decode cX7_shareNow 9 = .ok (.getfield 225, 3) := by decide +kernel
theorem dX7_shareNow_12 : decode cX7_shareNow 12 = .ok (.iload_n 2, 1) := by decide +kernel
theorem dX7_shareNow_13 : decode cX7_shareNow 13 = .ok (.iaload, 1) := by decide +kernel
theorem dX7_shareNow_14 : decode cX7_shareNow 14 = .ok (.ireturn, 1) := by decide +kernel
theorem dX7_share_0 : decode cX7_share 0 = .ok (.aload_n 0, 1) := by decide +kernel
theorem dX7_share_1 : decode cX7_share 1 = .ok (.iload_n 1, 1) := by decide +kernel
theorem dX7_share_2 : decode cX7_share 2 = .ok (.iload_n 2, 1) := by decide +kernel
theorem dX7_share_3 : decode cX7_share 3 = .ok (.invokevirtual 197, 3) := by decide +kernel
theorem dX7_share_6 : decode cX7_share 6 = .ok (.ifCond .eq 12, 3) := by decide +kernel
theorem dX7_share_9 : decode cX7_share 9 = .ok (.aload_n 0, 1) := by decide +kernel
theorem dX7_share_10 : decode cX7_share 10 = .ok (.iload_n 1, 1) := by decide +kernel
theorem dX7_share_11 : decode cX7_share 11 = .ok (.iload_n 2, 1) := by decide +kernel
theorem dX7_share_12 : decode cX7_share 12 = .ok (.invokevirtual 230, 3) := by decide +kernel
theorem dX7_share_15 : decode cX7_share 15 = .ok (.goto 4, 3) := by decide +kernel
theorem dX7_share_18 : decode cX7_share 18 = .ok (.iconst (-1), 1) := by decide +kernel
theorem dX7_share_19 : decode cX7_share 19 = .ok (.ireturn, 1) := by decide +kernel
theorem dX7_rounds_0 : decode cX7_rounds 0 = .ok (.aload_n 0, 1) := by decide +kernel
theorem dX7_rounds_1 : decode cX7_rounds 1 = .ok (.iload_n 1, 1) := by decide +kernel
theorem dX7_rounds_2 : decode cX7_rounds 2 = .ok (.invokevirtual 103, 3) := by decide +kernel
theorem dX7_rounds_5 : decode cX7_rounds 5 = .ok (.ifCond .ne 5, 3) := by decide +kernel
theorem dX7_rounds_8 : decode cX7_rounds 8 = .ok (.iconst (-1), 1) := by decide +kernel
theorem dX7_rounds_9 : decode cX7_rounds 9 = .ok (.ireturn, 1) := by decide +kernel
theorem dX7_rounds_10 : decode cX7_rounds 10 = .ok (.aload_n 0, 1) := by decide +kernel
theorem dX7_rounds_11 : decode cX7_rounds 11 = .ok (.iload_n 1, 1) := by decide +kernel
theorem dX7_rounds_12 : decode cX7_rounds 12 = .ok (.invokevirtual 158, 3) := by decide +kernel
theorem dX7_rounds_15 : decode cX7_rounds 15 = .ok (.aload_n 0, 1) := by decide +kernel
theorem dX7_rounds_16 : decode cX7_rounds 16 = .ok (.getfield 48, 3) := by decide +kernel
theorem dX7_rounds_19 : decode cX7_rounds 19 = .ok (.getfield 233, 3) := by decide +kernel
theorem dX7_rounds_22 : decode cX7_rounds 22 = .ok (.ireturn, 1) := by decide +kernel
theorem dX7_left_0 : decode cX7_left 0 = .ok (.aload_n 0, 1) := by decide +kernel
theorem dX7_left_1 : decode cX7_left 1 = .ok (.iload_n 1, 1) := by decide +kernel
theorem dX7_left_2 : decode cX7_left 2 = .ok (.invokevirtual 103, 3) := by decide +kernel
theorem dX7_left_5 : decode cX7_left 5 = .ok (.ifCond .ne 5, 3) := by decide +kernel
theorem dX7_left_8 : decode cX7_left 8 = .ok (.iconst (-1), 1) := by decide +kernel
theorem dX7_left_9 : decode cX7_left 9 = .ok (.ireturn, 1) := by decide +kernel
theorem dX7_left_10 : decode cX7_left 10 = .ok (.aload_n 0, 1) := by decide +kernel
theorem dX7_left_11 : decode cX7_left 11 = .ok (.iload_n 1, 1) := by decide +kernel
theorem dX7_left_12 : decode cX7_left 12 = .ok (.invokevirtual 158, 3) := by decide +kernel
theorem dX7_left_15 : decode cX7_left 15 = .ok (.aload_n 0, 1) := by decide +kernel
theorem dX7_left_16 : decode cX7_left 16 = .ok (.getfield 48, 3) := by decide +kernel
theorem dX7_left_19 : decode cX7_left 19 = .ok (.getfield 236, 3) := by decide +kernel
theorem dX7_left_22 : decode cX7_left 22 = .ok (.ireturn, 1) := by decide +kernel
theorem dX7_straight_0 : decode cX7_straight 0 = .ok (.aload_n 0, 1) := by decide +kernel
theorem dX7_straight_1 : decode cX7_straight 1 = .ok (.iload_n 1, 1) := by decide +kernel
theorem dX7_straight_2 : decode cX7_straight 2 = .ok (.iload_n 2, 1) := by decide +kernel
theorem dX7_straight_3 : decode cX7_straight 3 = .ok (.invokevirtual 197, 3) := by decide +kernel
theorem dX7_straight_6 : decode cX7_straight 6 = .ok (.ifCond .ne 5, 3) := by decide +kernel
theorem dX7_straight_9 : decode cX7_straight 9 = .ok (.iconst (-1), 1) := by decide +kernel
theorem dX7_straight_10 : decode cX7_straight 10 = .ok (.ireturn, 1) := by decide +kernel
theorem dX7_straight_11 : decode cX7_straight 11 = .ok (.aload_n 0, 1) := by decide +kernel
theorem dX7_straight_12 : decode cX7_straight 12 = .ok (.iload_n 1, 1) := by decide +kernel
theorem dX7_straight_13 : decode cX7_straight 13 = .ok (.invokevirtual 239, 3) := by decide +kernel
theorem dX7_straight_16 : decode cX7_straight 16 = .ok (.aload_n 0, 1) := by decide +kernel
theorem dX7_straight_17 : decode cX7_straight 17 = .ok (.getfield 48, 3) := by decide +kernel
theorem dX7_straight_20 : decode cX7_straight 20 = .ok (.getfield 225, 3) := by decide +kernel
theorem dX7_straight_23 : decode cX7_straight 23 = .ok (.iload_n 2, 1) := by decide +kernel
theorem dX7_straight_24 : decode cX7_straight 24 = .ok (.iaload, 1) := by decide +kernel
theorem dX7_straight_25 : decode cX7_straight 25 = .ok (.ireturn, 1) := by decide +kernel
theorem dX7_other_0 : decode cX7_other 0 = .ok (.aload_n 0, 1) := by decide +kernel
theorem dX7_other_1 : decode cX7_other 1 = .ok (.iload_n 1, 1) := by decide +kernel
theorem dX7_other_2 : decode cX7_other 2 = .ok (.iload_n 2, 1) := by decide +kernel
theorem dX7_other_3 : decode cX7_other 3 = .ok (.invokevirtual 197, 3) := by decide +kernel
theorem dX7_other_6 : decode cX7_other 6 = .ok (.ifCond .ne 5, 3) := by decide +kernel
theorem dX7_other_9 : decode cX7_other 9 = .ok (.iconst (-1), 1) := by decide +kernel
theorem dX7_other_10 : decode cX7_other 10 = .ok (.ireturn, 1) := by decide +kernel
theorem dX7_other_11 : decode cX7_other 11 = .ok (.aload_n 0, 1) := by decide +kernel
theorem dX7_other_12 : decode cX7_other 12 = .ok (.getfield 48, 3) := by decide +kernel
theorem dX7_other_15 : decode cX7_other 15 = .ok (.aload_n 0, 1) := by decide +kernel
theorem dX7_other_16 : decode cX7_other 16 = .ok (.getfield 20, 3) := by decide +kernel
theorem dX7_other_19 : decode cX7_other 19 = .ok (.aload_n 0, 1) := by decide +kernel
theorem dX7_other_20 : decode cX7_other 20 = .ok (.getfield 39, 3) := by decide +kernel
theorem dX7_other_23 : decode cX7_other 23 = .ok (.iload_n 1, 1) := by decide +kernel
theorem dX7_other_24 : decode cX7_other 24 = .ok (.invokevirtual 212, 3) := by decide +kernel
theorem dX7_other_27 : decode cX7_other 27 = .ok (.aload_n 0, 1) := by decide +kernel
theorem dX7_other_28 : decode cX7_other 28 = .ok (.getfield 48, 3) := by decide +kernel
theorem dX7_other_31 : decode cX7_other 31 = .ok (.aload_n 0, 1) := by decide +kernel
theorem dX7_other_32 : decode cX7_other 32 = .ok (.getfield 48, 3) := by decide +kernel
theorem dX7_other_35 : decode cX7_other 35 = .ok (.getfield 242, 3) := by decide +kernel
theorem dX7_other_38 : decode cX7_other 38 = .ok (.ifCond .ne 7, 3) := by decide +kernel
theorem dX7_other_41 : decode cX7_other 41 = .ok (.iconst 1, 1) := by decide +kernel
theorem dX7_other_42 : decode cX7_other 42 = .ok (.goto 4, 3) := by decide +kernel
theorem dX7_other_45 : decode cX7_other 45 = .ok (.iconst 0, 1) := by decide +kernel
theorem dX7_other_46 : decode cX7_other 46 = .ok (.putfield 242, 3) := by decide +kernel
theorem dX7_other_49 : decode cX7_other 49 = .ok (.aload_n 0, 1) := by decide +kernel
theorem dX7_other_50 : decode cX7_other 50 = .ok (.getfield 48, 3) := by decide +kernel
theorem dX7_other_53 : decode cX7_other 53 = .ok (.invokevirtual 216, 3) := by decide +kernel
theorem dX7_other_56 : decode cX7_other 56 = .ok (.aload_n 0, 1) := by decide +kernel
theorem dX7_other_57 : decode cX7_other 57 = .ok (.getfield 48, 3) := by decide +kernel
theorem dX7_other_60 : decode cX7_other 60 = .ok (.getfield 225, 3) := by decide +kernel
theorem dX7_other_63 : decode cX7_other 63 = .ok (.iload_n 2, 1) := by decide +kernel
theorem dX7_other_64 : decode cX7_other 64 = .ok (.iaload, 1) := by decide +kernel
theorem dX7_other_65 : decode cX7_other 65 = .ok (.ireturn, 1) := by decide +kernel
theorem dX7_without_0 : decode cX7_without 0 = .ok (.aload_n 0, 1) := by decide +kernel
theorem dX7_without_1 : decode cX7_without 1 = .ok (.iload_n 1, 1) := by decide +kernel
theorem dX7_without_2 : decode cX7_without 2 = .ok (.invokevirtual 137, 3) := by decide +kernel
theorem dX7_without_5 : decode cX7_without 5 = .ok (.ifCond .eq 12, 3) := by decide +kernel
theorem dX7_without_8 : decode cX7_without 8 = .ok (.aload_n 0, 1) := by decide +kernel
theorem dX7_without_9 : decode cX7_without 9 = .ok (.iload_n 2, 1) := by decide +kernel
theorem dX7_without_10 : decode cX7_without 10 = .ok (.iload_n 3, 1) := by decide +kernel
theorem dX7_without_11 : decode cX7_without 11 = .ok (.invokevirtual 197, 3) := by decide +kernel
theorem dX7_without_14 : decode cX7_without 14 = .ok (.ifCond .ne 5, 3) := by decide +kernel
theorem dX7_without_17 : decode cX7_without 17 = .ok (.iconst (-1), 1) := by decide +kernel
theorem dX7_without_18 : decode cX7_without 18 = .ok (.ireturn, 1) := by decide +kernel
theorem dX7_without_19 : decode cX7_without 19 = .ok (.aload_n 0, 1) := by decide +kernel
theorem dX7_without_20 : decode cX7_without 20 = .ok (.iload_n 1, 1) := by decide +kernel
theorem dX7_without_21 : decode cX7_without 21 = .ok (.iload_n 2, 1) := by decide +kernel
theorem dX7_without_22 : decode cX7_without 22 = .ok (.invokevirtual 245, 3) := by decide +kernel
theorem dX7_without_25 : decode cX7_without 25 = .ok (.aload_n 0, 1) := by decide +kernel
theorem dX7_without_26 : decode cX7_without 26 = .ok (.getfield 48, 3) := by decide +kernel
theorem dX7_without_29 : decode cX7_without 29 = .ok (.getfield 225, 3) := by decide +kernel
theorem dX7_without_32 : decode cX7_without 32 = .ok (.iload_n 3, 1) := by decide +kernel
theorem dX7_without_33 : decode cX7_without 33 = .ok (.iaload, 1) := by decide +kernel
theorem dX7_without_34 : decode cX7_without 34 = .ok (.ireturn, 1) := by decide +kernel
theorem dX7_matters_0 : decode cX7_matters 0 = .ok (.aload_n 0, 1) := by decide +kernel
theorem dX7_matters_1 : decode cX7_matters 1 = .ok (.iload_n 1, 1) := by decide +kernel
theorem dX7_matters_2 : decode cX7_matters 2 = .ok (.invokevirtual 137, 3) := by decide +kernel
theorem dX7_matters_5 : decode cX7_matters 5 = .ok (.ifCond .ne 5, 3) := by decide +kernel
theorem dX7_matters_8 : decode cX7_matters 8 = .ok (.iconst (-1), 1) := by decide +kernel
theorem dX7_matters_9 : decode cX7_matters 9 = .ok (.ireturn, 1) := by decide +kernel
theorem dX7_matters_10 : decode cX7_matters 10 = .ok (.iconst 0, 1) := by decide +kernel
theorem dX7_matters_11 : decode cX7_matters 11 = .ok (.istore_n 2, 1) := by decide +kernel
theorem dX7_matters_12 : decode cX7_matters 12 = .ok (.iconst 0, 1) := by decide +kernel
theorem dX7_matters_13 : decode cX7_matters 13 = .ok (.istore_n 3, 1) := by decide +kernel
theorem dX7_matters_14 : decode cX7_matters 14 = .ok (.iload_n 3, 1) := by decide +kernel
theorem dX7_matters_15 : decode cX7_matters 15 = .ok (.aload_n 0, 1) := by decide +kernel
theorem dX7_matters_16 : decode cX7_matters 16 = .ok (.getfield 20, 3) := by decide +kernel
theorem dX7_matters_19 : decode cX7_matters 19 = .ok (.getfield 100, 3) := by decide +kernel
theorem dX7_matters_22 : decode cX7_matters 22 = .ok (.if_icmp .ge 33, 3) := by decide +kernel
theorem dX7_matters_25 : decode cX7_matters 25 = .ok (.aload_n 0, 1) := by decide +kernel
theorem dX7_matters_26 : decode cX7_matters 26 = .ok (.iload_n 3, 1) := by decide +kernel
theorem dX7_matters_27 : decode cX7_matters 27 = .ok (.invokevirtual 249, 3) := by decide +kernel
theorem dX7_matters_30 : decode cX7_matters 30 = .ok (.aload_n 0, 1) := by decide +kernel
theorem dX7_matters_31 : decode cX7_matters 31 = .ok (.iload_n 1, 1) := by decide +kernel
theorem dX7_matters_32 : decode cX7_matters 32 = .ok (.iload_n 3, 1) := by decide +kernel
theorem dX7_matters_33 : decode cX7_matters 33 = .ok (.invokevirtual 245, 3) := by decide +kernel
theorem dX7_matters_36 : decode cX7_matters 36 = .ok (.aload_n 0, 1) := by decide +kernel
theorem dX7_matters_37 : decode cX7_matters 37 = .ok (.invokevirtual 252, 3) := by decide +kernel
theorem dX7_matters_40 : decode cX7_matters 40 = .ok (.ifCond .eq 9, 3) := by decide +kernel
theorem dX7_matters_43 : decode cX7_matters 43 = .ok (.iload_n 2, 1) := by decide +kernel
theorem dX7_matters_44 : decode cX7_matters 44 = .ok (.iconst 1, 1) := by decide +kernel
theorem dX7_matters_45 : decode cX7_matters 45 = .ok (.iload_n 3, 1) := by decide +kernel
theorem dX7_matters_46 : decode cX7_matters 46 = .ok (.ishl, 1) := by decide +kernel
theorem dX7_matters_47 : decode cX7_matters 47 = .ok (.ior, 1) := by decide +kernel
theorem dX7_matters_48 : decode cX7_matters 48 = .ok (.istore_n 2, 1) := by decide +kernel
theorem dX7_matters_49 : decode cX7_matters 49 = .ok (.iinc 3 1, 3) := by decide +kernel
theorem dX7_matters_52 : decode cX7_matters 52 = .ok (.goto (-38), 3) := by decide +kernel
theorem dX7_matters_55 : decode cX7_matters 55 = .ok (.iload_n 2, 1) := by decide +kernel
theorem dX7_matters_56 : decode cX7_matters 56 = .ok (.ireturn, 1) := by decide +kernel
theorem dX7_sharesDiffer_0 : decode cX7_sharesDiffer 0 = .ok (.iconst 0, 1) := by decide +kernel
theorem dX7_sharesDiffer_1 : decode cX7_sharesDiffer 1 = .ok (.istore_n 1, 1) := by decide +kernel
theorem dX7_sharesDiffer_2 : decode cX7_sharesDiffer 2 = .ok (.iload_n 1, 1) := by decide +kernel
theorem dX7_sharesDiffer_3 : decode cX7_sharesDiffer 3 = .ok (.aload_n 0, 1) := by decide +kernel
theorem dX7_sharesDiffer_4 : decode cX7_sharesDiffer 4 = .ok (.getfield 48, 3) := by decide +kernel
theorem dX7_sharesDiffer_7 : decode cX7_sharesDiffer 7 = .ok (.getfield 161, 3) := by decide +kernel
theorem dX7_sharesDiffer_10 : decode cX7_sharesDiffer 10 = .ok (.if_icmp .ge 29, 3) := by decide +kernel
theorem dX7_sharesDiffer_13 : decode cX7_sharesDiffer 13 = .ok (.aload_n 0, 1) := by decide +kernel
theorem dX7_sharesDiffer_14 : decode cX7_sharesDiffer 14 = .ok (.getfield 48, 3) := by decide +kernel
theorem dX7_sharesDiffer_17 : decode cX7_sharesDiffer 17 = .ok (.getfield 225, 3) := by decide +kernel
theorem dX7_sharesDiffer_20 : decode cX7_sharesDiffer 20 = .ok (.iload_n 1, 1) := by decide +kernel
theorem dX7_sharesDiffer_21 : decode cX7_sharesDiffer 21 = .ok (.iaload, 1) := by decide +kernel
theorem dX7_sharesDiffer_22 : decode cX7_sharesDiffer 22 = .ok (.aload_n 0, 1) := by decide +kernel
theorem dX7_sharesDiffer_23 : decode cX7_sharesDiffer 23 = .ok (.getfield 59, 3) := by decide +kernel
theorem dX7_sharesDiffer_26 : decode cX7_sharesDiffer 26 = .ok (.iload_n 1, 1) := by decide +kernel
theorem dX7_sharesDiffer_27 : decode cX7_sharesDiffer 27 = .ok (.iaload, 1) := by decide +kernel
theorem dX7_sharesDiffer_28 : decode cX7_sharesDiffer 28 = .ok (.if_icmp .eq 5, 3) := by decide +kernel
theorem dX7_sharesDiffer_31 : decode cX7_sharesDiffer 31 = .ok (.iconst 1, 1) := by decide +kernel
theorem dX7_sharesDiffer_32 : decode cX7_sharesDiffer 32 = .ok (.ireturn, 1) := by decide +kernel
theorem dX7_sharesDiffer_33 : decode cX7_sharesDiffer 33 = .ok (.iinc 1 1, 3) := by decide +kernel
theorem dX7_sharesDiffer_36 : decode cX7_sharesDiffer 36 = .ok (.goto (-34), 3) := by decide +kernel
theorem dX7_sharesDiffer_39 : decode cX7_sharesDiffer 39 = .ok (.iconst 0, 1) := by decide +kernel
theorem dX7_sharesDiffer_40 : decode cX7_sharesDiffer 40 = .ok (.ireturn, 1) := by decide +kernel
theorem dX7_keepSharesBefore_0 : decode cX7_keepSharesBefore 0 = .ok (.aload_n 0, 1) := by decide +kernel
theorem dX7_keepSharesBefore_1 : decode cX7_keepSharesBefore 1 = .ok (.getfield 48, 3) := by decide +kernel
theorem dX7_keepSharesBefore_4 : decode cX7_keepSharesBefore 4 = .ok (.aload_n 0, 1) := by decide +kernel
theorem dX7_keepSharesBefore_5 : decode cX7_keepSharesBefore 5 = .ok (.getfield 20, 3) := by decide +kernel
theorem dX7_keepSharesBefore_8 : decode cX7_keepSharesBefore 8 = .ok (.aload_n 0, 1) := by decide +kernel
theorem dX7_keepSharesBefore_9 : decode cX7_keepSharesBefore 9 = .ok (.getfield 39, 3) := by decide +kernel
theorem dX7_keepSharesBefore_12 : decode cX7_keepSharesBefore 12 = .ok (.iload_n 1, 1) := by decide +kernel
theorem dX7_keepSharesBefore_13 : decode cX7_keepSharesBefore 13 = .ok (.invokevirtual 212, 3) := by decide +kernel
theorem dX7_keepSharesBefore_16 : decode cX7_keepSharesBefore 16 = .ok (.aload_n 0, 1) := by decide +kernel
theorem dX7_keepSharesBefore_17 : decode cX7_keepSharesBefore 17 = .ok (.getfield 48, 3) := by decide +kernel
theorem dX7_keepSharesBefore_20 : decode cX7_keepSharesBefore 20 = .ok (.invokevirtual 216, 3) := by decide +kernel
theorem dX7_keepSharesBefore_23 : decode cX7_keepSharesBefore 23 = .ok (.iconst 0, 1) := by decide +kernel
theorem dX7_keepSharesBefore_24 : decode cX7_keepSharesBefore 24 = .ok (.istore_n 2, 1) := by decide +kernel
theorem dX7_keepSharesBefore_25 : decode cX7_keepSharesBefore 25 = .ok (.iload_n 2, 1) := by decide +kernel
theorem dX7_keepSharesBefore_26 : decode cX7_keepSharesBefore 26 = .ok (.aload_n 0, 1) := by decide +kernel
theorem dX7_keepSharesBefore_27 : decode cX7_keepSharesBefore 27 = .ok (.getfield 48, 3) := by decide +kernel
theorem dX7_keepSharesBefore_30 : decode cX7_keepSharesBefore 30 = .ok (.getfield 161, 3) := by decide +kernel
theorem dX7_keepSharesBefore_33 : decode cX7_keepSharesBefore 33 = .ok (.if_icmp .ge 24, 3) := by decide +kernel
theorem dX7_keepSharesBefore_36 : decode cX7_keepSharesBefore 36 = .ok (.aload_n 0, 1) := by decide +kernel
theorem dX7_keepSharesBefore_37 : decode cX7_keepSharesBefore 37 = .ok (.getfield 59, 3) := by decide +kernel
theorem dX7_keepSharesBefore_40 : decode cX7_keepSharesBefore 40 = .ok (.iload_n 2, 1) := by decide +kernel
theorem dX7_keepSharesBefore_41 : decode cX7_keepSharesBefore 41 = .ok (.aload_n 0, 1) := by decide +kernel
