theorem dX12_nextToken_68 : decode cX12_nextToken 68 = .ok (.aload_n 0, 1) := by decide +kernel
theorem dX12_nextToken_69 : decode cX12_nextToken 69 = .ok (.aload_n 0, 1) := by decide +kernel
theorem dX12_nextToken_70 : decode cX12_nextToken 70 = .ok (.invokevirtual 66, 3) := by decide +kernel
theorem dX12_nextToken_73 : decode cX12_nextToken 73 = .ok (.putfield 77, 3) := by decide +kernel
theorem dX12_nextToken_76 : decode cX12_nextToken 76 = .ok (.aload_n 0, 1) := by decide +kernel
theorem dX12_nextToken_77 : decode cX12_nextToken 77 = .ok (.aload_n 0, 1) := by decide +kernel
theorem dX12_nextToken_78 : decode cX12_nextToken 78 = .ok (.getfield 77, 3) := by decide +kernel
theorem dX12_nextToken_81 : decode cX12_nextToken 81 = .ok (.bipush 114, 2) := by decide +kernel
theorem dX12_nextToken_83 : decode cX12_nextToken 83 = .ok (.if_icmp .eq 21, 3) := by decide +kernel
theorem dX12_nextToken_86 : decode cX12_nextToken 86 = .ok (.aload_n 0, 1) := by decide +kernel
theorem dX12_nextToken_87 : decode cX12_nextToken 87 = .ok (.getfield 77, 3) := by decide +kernel
theorem dX12_nextToken_90 : decode cX12_nextToken 90 = .ok (.bipush 104, 2) := by decide +kernel
theorem dX12_nextToken_92 : decode cX12_nextToken 92 = .ok (.if_icmp .eq 12, 3) := by decide +kernel
theorem dX12_nextToken_95 : decode cX12_nextToken 95 = .ok (.aload_n 0, 1) := by decide +kernel
theorem dX12_nextToken_96 : decode cX12_nextToken 96 = .ok (.getfield 77, 3) := by decide +kernel
theorem dX12_nextToken_99 : decode cX12_nextToken 99 = .ok (.bipush 115, 2) := by decide +kernel
theorem dX12_nextToken_101 : decode cX12_nextToken 101 = .ok (.if_icmp .ne 7, 3) := by decide +kernel
theorem dX12_nextToken_104 : decode cX12_nextToken 104 = .ok (.iconst 1, 1) := by decide +kernel
theorem dX12_nextToken_105 : decode cX12_nextToken 105 = .ok (.goto 17, 3) := by decide +kernel
theorem dX12_nextToken_108 : decode cX12_nextToken 108 = .ok (.aload_n 0, 1) := by decide +kernel
theorem dX12_nextToken_109 : decode cX12_nextToken 109 = .ok (.getfield 77, 3) := by decide +kernel
theorem dX12_nextToken_112 : decode cX12_nextToken 112 = .ok (.bipush 59, 2) := by decide +kernel
theorem dX12_nextToken_114 : decode cX12_nextToken 114 = .ok (.if_icmp .ne 7, 3) := by decide +kernel
theorem dX12_nextToken_117 : decode cX12_nextToken 117 = .ok (.iconst 3, 1) := by decide +kernel
theorem dX12_nextToken_118 : decode cX12_nextToken 118 = .ok (.goto 4, 3) := by decide +kernel
theorem dX12_nextToken_121 : decode cX12_nextToken 121 = .ok (.iconst 4, 1) := by decide +kernel
theorem dX12_nextToken_122 : decode cX12_nextToken 122 = .ok (.putfield 80, 3) := by decide +kernel
theorem dX12_nextToken_125 : decode cX12_nextToken 125 = .ok (.aload_n 0, 1) := by decide +kernel
theorem dX12_nextToken_126 : decode cX12_nextToken 126 = .ok (.dup, 1) := by decide +kernel
theorem dX12_nextToken_127 : decode cX12_nextToken 127 = .ok (.getfield 63, 3) := by decide +kernel
theorem dX12_nextToken_130 : decode cX12_nextToken 130 = .ok (.iconst 1, 1) := by decide +kernel
theorem dX12_nextToken_131 : decode cX12_nextToken 131 = .ok (.iadd, 1) := by decide +kernel
theorem dX12_nextToken_132 : decode cX12_nextToken 132 = .ok (.putfield 63, 3) := by decide +kernel
theorem dX12_nextToken_135 : decode cX12_nextToken 135 = .ok (.return_, 1) := by decide +kernel
theorem dX12_readsFigures_0 : decode cX12_readsFigures 0 = .ok (.aload_n 0, 1) := by decide +kernel
theorem dX12_readsFigures_1 : decode cX12_readsFigures 1 = .ok (.invokevirtual 66, 3) := by decide +kernel
theorem dX12_readsFigures_4 : decode cX12_readsFigures 4 = .ok (.bipush 48, 2) := by decide +kernel
theorem dX12_readsFigures_6 : decode cX12_readsFigures 6 = .ok (.if_icmp .ne 7, 3) := by decide +kernel
theorem dX12_readsFigures_9 : decode cX12_readsFigures 9 = .ok (.iconst 1, 1) := by decide +kernel
theorem dX12_readsFigures_10 : decode cX12_readsFigures 10 = .ok (.goto 4, 3) := by decide +kernel
theorem dX12_readsFigures_13 : decode cX12_readsFigures 13 = .ok (.iconst 0, 1) := by decide +kernel
theorem dX12_readsFigures_14 : decode cX12_readsFigures 14 = .ok (.istore_n 1, 1) := by decide +kernel
theorem dX12_readsFigures_15 : decode cX12_readsFigures 15 = .ok (.aload_n 0, 1) := by decide +kernel
theorem dX12_readsFigures_16 : decode cX12_readsFigures 16 = .ok (.invokevirtual 83, 3) := by decide +kernel
theorem dX12_readsFigures_19 : decode cX12_readsFigures 19 = .ok (.ifCond .eq 51, 3) := by decide +kernel
theorem dX12_readsFigures_22 : decode cX12_readsFigures 22 = .ok (.aload_n 0, 1) := by decide +kernel
theorem dX12_readsFigures_23 : decode cX12_readsFigures 23 = .ok (.aload_n 0, 1) := by decide +kernel
theorem dX12_readsFigures_24 : decode cX12_readsFigures 24 = .ok (.getfield 77, 3) := by decide +kernel
theorem dX12_readsFigures_27 : decode cX12_readsFigures 27 = .ok (.bipush 99, 2) := by decide +kernel
theorem dX12_readsFigures_29 : decode cX12_readsFigures 29 = .ok (.if_icmp .le 10, 3) := by decide +kernel
theorem dX12_readsFigures_32 : decode cX12_readsFigures 32 = .ok (.aload_n 0, 1) := by decide +kernel
theorem dX12_readsFigures_33 : decode cX12_readsFigures 33 = .ok (.getfield 77, 3) := by decide +kernel
theorem dX12_readsFigures_36 : decode cX12_readsFigures 36 = .ok (.goto 18, 3) := by decide +kernel
theorem dX12_readsFigures_39 : decode cX12_readsFigures 39 = .ok (.bipush 10, 2) := by decide +kernel
theorem dX12_readsFigures_41 : decode cX12_readsFigures 41 = .ok (.aload_n 0, 1) := by decide +kernel
theorem dX12_readsFigures_42 : decode cX12_readsFigures 42 = .ok (.getfield 77, 3) := by decide +kernel
theorem dX12_readsFigures_45 : decode cX12_readsFigures 45 = .ok (.imul, 1) := by decide +kernel
theorem dX12_readsFigures_46 : decode cX12_readsFigures 46 = .ok (.aload_n 0, 1) := by decide +kernel
theorem dX12_readsFigures_47 : decode cX12_readsFigures 47 = .ok (.invokevirtual 66, 3) := by decide +kernel
theorem dX12_readsFigures_50 : decode cX12_readsFigures 50 = .ok (.iadd, 1) := by decide +kernel
theorem dX12_readsFigures_51 : decode cX12_readsFigures 51 = .ok (.bipush 48, 2) := by decide +kernel
theorem dX12_readsFigures_53 : decode cX12_readsFigures 53 = .ok (.isub, 1) := by decide +kernel
theorem dX12_readsFigures_54 : decode cX12_readsFigures 54 = .ok (.putfield 77, 3) := by decide +kernel
theorem dX12_readsFigures_57 : decode cX12_readsFigures 57 = .ok (.aload_n 0, 1) := by decide +kernel
theorem dX12_readsFigures_58 : decode cX12_readsFigures 58 = .ok (.dup, 1) := by decide +kernel
theorem dX12_readsFigures_59 : decode cX12_readsFigures 59 = .ok (.getfield 63, 3) := by decide +kernel
theorem dX12_readsFigures_62 : decode cX12_readsFigures 62 = .ok (.iconst 1, 1) := by decide +kernel
theorem dX12_readsFigures_63 : decode cX12_readsFigures 63 = .ok (.iadd, 1) := by decide +kernel
theorem dX12_readsFigures_64 : decode cX12_readsFigures 64 = .ok (.putfield 63, 3) := by decide +kernel
theorem dX12_readsFigures_67 : decode cX12_readsFigures 67 = .ok (.goto (-52), 3) := by decide +kernel
theorem dX12_readsFigures_70 : decode cX12_readsFigures 70 = .ok (.aload_n 0, 1) := by decide +kernel
theorem dX12_readsFigures_71 : decode cX12_readsFigures 71 = .ok (.aload_n 0, 1) := by decide +kernel
theorem dX12_readsFigures_72 : decode cX12_readsFigures 72 = .ok (.getfield 77, 3) := by decide +kernel
theorem dX12_readsFigures_75 : decode cX12_readsFigures 75 = .ok (.bipush 99, 2) := by decide +kernel
theorem dX12_readsFigures_77 : decode cX12_readsFigures 77 = .ok (.if_icmp .gt 20, 3) := by decide +kernel
theorem dX12_readsFigures_80 : decode cX12_readsFigures 80 = .ok (.iload_n 1, 1) := by decide +kernel
theorem dX12_readsFigures_81 : decode cX12_readsFigures 81 = .ok (.ifCond .eq 20, 3) := by decide +kernel
theorem dX12_readsFigures_84 : decode cX12_readsFigures 84 = .ok (.aload_n 0, 1) := by decide +kernel
theorem dX12_readsFigures_85 : decode cX12_readsFigures 85 = .ok (.getfield 63, 3) := by decide +kernel
theorem dX12_readsFigures_88 : decode cX12_readsFigures 88 = .ok (.aload_n 0, 1) := by decide +kernel
theorem dX12_readsFigures_89 : decode cX12_readsFigures 89 = .ok (.getfield 74, 3) := by decide +kernel
theorem dX12_readsFigures_92 : decode cX12_readsFigures 92 = .ok (.isub, 1) := by decide +kernel
theorem dX12_readsFigures_93 : decode cX12_readsFigures 93 = .ok (.iconst 1, 1) := by decide +kernel
theorem dX12_readsFigures_94 : decode cX12_readsFigures 94 = .ok (.if_icmp .le 7, 3) := by decide +kernel
theorem dX12_readsFigures_97 : decode cX12_readsFigures 97 = .ok (.iconst 4, 1) := by decide +kernel
theorem dX12_readsFigures_98 : decode cX12_readsFigures 98 = .ok (.goto 4, 3) := by decide +kernel
theorem dX12_readsFigures_101 : decode cX12_readsFigures 101 = .ok (.iconst 2, 1) := by decide +kernel
theorem dX12_readsFigures_102 : decode cX12_readsFigures 102 = .ok (.putfield 80, 3) := by decide +kernel
theorem dX12_readsFigures_105 : decode cX12_readsFigures 105 = .ok (.return_, 1) := by decide +kernel
theorem dX12_number_0 : decode cX12_number 0 = .ok (.aload_n 0, 1) := by decide +kernel
theorem dX12_number_1 : decode cX12_number 1 = .ok (.invokevirtual 90, 3) := by decide +kernel
theorem dX12_number_4 : decode cX12_number 4 = .ok (.aload_n 0, 1) := by decide +kernel
theorem dX12_number_5 : decode cX12_number 5 = .ok (.getfield 80, 3) := by decide +kernel
theorem dX12_number_8 : decode cX12_number 8 = .ok (.iconst 2, 1) := by decide +kernel
theorem dX12_number_9 : decode cX12_number 9 = .ok (.if_icmp .ne 22, 3) := by decide +kernel
theorem dX12_number_12 : decode cX12_number 12 = .ok (.aload_n 0, 1) := by decide +kernel
theorem dX12_number_13 : decode cX12_number 13 = .ok (.getfield 77, 3) := by decide +kernel
theorem dX12_number_16 : decode cX12_number 16 = .ok (.i2l, 1) := by decide +kernel
theorem dX12_number_17 : decode cX12_number 17 = .ok (.iload_n 1, 1) := by decide +kernel
theorem dX12_number_18 : decode cX12_number 18 = .ok (.i2l, 1) := by decide +kernel
theorem dX12_number_19 : decode cX12_number 19 = .ok (.iload_n 2, 1) := by decide +kernel
theorem dX12_number_20 : decode cX12_number 20 = .ok (.i2l, 1) := by decide +kernel
theorem dX12_number_21 : decode cX12_number 21 = .ok (.invokestatic 56, 3) := by decide +kernel
theorem dX12_number_24 : decode cX12_number 24 = .ok (.ifCond .eq 7, 3) := by decide +kernel
theorem dX12_number_27 : decode cX12_number 27 = .ok (.iconst 1, 1) := by decide +kernel
theorem dX12_number_28 : decode cX12_number 28 = .ok (.goto 4, 3) := by decide +kernel
theorem dX12_number_31 : decode cX12_number 31 = .ok (.iconst 0, 1) := by decide +kernel
theorem dX12_number_32 : decode cX12_number 32 = .ok (.ireturn, 1) := by decide +kernel
theorem dX12_isRooms_0 : decode cX12_isRooms 0 = .ok (.aload_n 0, 1) := by decide +kernel
theorem dX12_isRooms_1 : decode cX12_isRooms 1 = .ok (.iconst 3, 1) := by decide +kernel
theorem dX12_isRooms_2 : decode cX12_isRooms 2 = .ok (.bipush 6, 2) := by decide +kernel
theorem dX12_isRooms_4 : decode cX12_isRooms 4 = .ok (.invokevirtual 93, 3) := by decide +kernel
theorem dX12_isRooms_7 : decode cX12_isRooms 7 = .ok (.ifCond .ne 5, 3) := by decide +kernel
theorem dX12_isRooms_10 : decode cX12_isRooms 10 = .ok (.iconst 0, 1) := by decide +kernel
theorem dX12_isRooms_11 : decode cX12_isRooms 11 = .ok (.ireturn, 1) := by decide +kernel
theorem dX12_isRooms_12 : decode cX12_isRooms 12 = .ok (.aload_n 0, 1) := by decide +kernel
theorem dX12_isRooms_13 : decode cX12_isRooms 13 = .ok (.aload_n 0, 1) := by decide +kernel
theorem dX12_isRooms_14 : decode cX12_isRooms 14 = .ok (.getfield 77, 3) := by decide +kernel
theorem dX12_isRooms_17 : decode cX12_isRooms 17 = .ok (.putfield 97, 3) := by decide +kernel
theorem dX12_isRooms_20 : decode cX12_isRooms 20 = .ok (.aload_n 0, 1) := by decide +kernel
theorem dX12_isRooms_21 : decode cX12_isRooms 21 = .ok (.iconst 1, 1) := by decide +kernel
theorem dX12_isRooms_22 : decode cX12_isRooms 22 = .ok (.iconst 5, 1) := by decide +kernel
theorem dX12_isRooms_23 : decode cX12_isRooms 23 = .ok (.invokevirtual 93, 3) := by decide +kernel
theorem dX12_isRooms_26 : decode cX12_isRooms 26 = .ok (.ifCond .ne 5, 3) := by decide +kernel
theorem dX12_isRooms_29 : decode cX12_isRooms 29 = .ok (.iconst 0, 1) := by decide +kernel
theorem dX12_isRooms_30 : decode cX12_isRooms 30 = .ok (.ireturn, 1) := by decide +kernel
theorem dX12_isRooms_31 : decode cX12_isRooms 31 = .ok (.aload_n 0, 1) := by decide +kernel
theorem dX12_isRooms_32 : decode cX12_isRooms 32 = .ok (.aload_n 0, 1) := by decide +kernel
theorem dX12_isRooms_33 : decode cX12_isRooms 33 = .ok (.getfield 77, 3) := by decide +kernel
theorem dX12_isRooms_36 : decode cX12_isRooms 36 = .ok (.putfield 100, 3) := by decide +kernel
theorem dX12_isRooms_39 : decode cX12_isRooms 39 = .ok (.iconst 1, 1) := by decide +kernel
theorem dX12_isRooms_40 : decode cX12_isRooms 40 = .ok (.ireturn, 1) := by decide +kernel
theorem dX12_isHard_0 : decode cX12_isHard 0 = .ok (.aload_n 0, 1) := by decide +kernel
theorem dX12_isHard_1 : decode cX12_isHard 1 = .ok (.getfield 103, 3) := by decide +kernel
theorem dX12_isHard_4 : decode cX12_isHard 4 = .ok (.bipush (-9), 2) := by decide +kernel
theorem dX12_isHard_6 : decode cX12_isHard 6 = .ok (.if_icmp .ne 13, 3) := by decide +kernel
theorem dX12_isHard_9 : decode cX12_isHard 9 = .ok (.aload_n 0, 1) := by decide +kernel
theorem dX12_isHard_10 : decode cX12_isHard 10 = .ok (.iconst 0, 1) := by decide +kernel
theorem dX12_isHard_11 : decode cX12_isHard 11 = .ok (.bipush 20, 2) := by decide +kernel
theorem dX12_isHard_13 : decode cX12_isHard 13 = .ok (.invokevirtual 93, 3) := by decide +kernel
theorem dX12_isHard_16 : decode cX12_isHard 16 = .ok (.ifCond .ne 5, 3) := by decide +kernel
theorem dX12_isHard_19 : decode cX12_isHard 19 = .ok (.iconst 0, 1) := by decide +kernel
theorem dX12_isHard_20 : decode cX12_isHard 20 = .ok (.ireturn, 1) := by decide +kernel
theorem dX12_isHard_21 : decode cX12_isHard 21 = .ok (.aload_n 0, 1) := by decide +kernel
theorem dX12_isHard_22 : decode cX12_isHard 22 = .ok (.aload_n 0, 1) := by decide +kernel
theorem dX12_isHard_23 : decode cX12_isHard 23 = .ok (.getfield 77, 3) := by decide +kernel
theorem dX12_isHard_26 : decode cX12_isHard 26 = .ok (.putfield 103, 3) := by decide +kernel
theorem dX12_isHard_29 : decode cX12_isHard 29 = .ok (.iconst 1, 1) := by decide +kernel
theorem dX12_isHard_30 : decode cX12_isHard 30 = .ok (.ireturn, 1) := by decide +kernel
theorem dX12_isSort_0 : decode cX12_isSort 0 = .ok (.aload_n 0, 1) := by decide +kernel
theorem dX12_isSort_1 : decode cX12_isSort 1 = .ok (.getfield 106, 3) := by decide +kernel
theorem dX12_isSort_4 : decode cX12_isSort 4 = .ok (.bipush 6, 2) := by decide +kernel
theorem dX12_isSort_6 : decode cX12_isSort 6 = .ok (.if_icmp .eq 15, 3) := by decide +kernel
theorem dX12_isSort_9 : decode cX12_isSort 9 = .ok (.aload_n 0, 1) := by decide +kernel
theorem dX12_isSort_10 : decode cX12_isSort 10 = .ok (.iconst 1, 1) := by decide +kernel
theorem dX12_isSort_11 : decode cX12_isSort 11 = .ok (.aload_n 0, 1) := by decide +kernel
theorem dX12_isSort_12 : decode cX12_isSort 12 = .ok (.getfield 100, 3) := by decide +kernel
theorem dX12_isSort_15 : decode cX12_isSort 15 = .ok (.invokevirtual 93, 3) := by decide +kernel
theorem dX12_isSort_18 : decode cX12_isSort 18 = .ok (.ifCond .ne 5, 3) := by decide +kernel
theorem dX12_isSort_21 : decode cX12_isSort 21 = .ok (.iconst 0, 1) := by decide +kernel
theorem dX12_isSort_22 : decode cX12_isSort 22 = .ok (.ireturn, 1) := by decide +kernel
theorem dX12_isSort_23 : decode cX12_isSort 23 = .ok (.aload_n 0, 1) := by decide +kernel
theorem dX12_isSort_24 : decode cX12_isSort 24 = .ok (.getfield 48, 3) := by decide +kernel
theorem dX12_isSort_27 : decode cX12_isSort 27 = .ok (.aload_n 0, 1) := by decide +kernel
theorem dX12_isSort_28 : decode cX12_isSort 28 = .ok (.getfield 106, 3) := by decide +kernel
theorem dX12_isSort_31 : decode cX12_isSort 31 = .ok (.aload_n 0, 1) := by decide +kernel
theorem dX12_isSort_32 : decode cX12_isSort 32 = .ok (.getfield 77, 3) := by decide +kernel
theorem dX12_isSort_35 : decode cX12_isSort 35 = .ok (.iastore, 1) := by decide +kernel
theorem dX12_isSort_36 : decode cX12_isSort 36 = .ok (.aload_n 0, 1) := by decide +kernel
theorem dX12_isSort_37 : decode cX12_isSort 37 = .ok (.iconst 0, 1) := by decide +kernel
theorem dX12_isSort_38 : decode cX12_isSort 38 = .ok (.bipush 9, 2) := by decide +kernel
theorem dX12_isSort_40 : decode cX12_isSort 40 = .ok (.invokevirtual 93, 3) := by decide +kernel
theorem dX12_isSort_43 : decode cX12_isSort 43 = .ok (.ifCond .ne 5, 3) := by decide +kernel
theorem dX12_isSort_46 : decode cX12_isSort 46 = .ok (.iconst 0, 1) := by decide +kernel
theorem dX12_isSort_47 : decode cX12_isSort 47 = .ok (.ireturn, 1) := by decide +kernel
theorem dX12_isSort_48 : decode cX12_isSort 48 = .ok (.aload_n 0, 1) := by decide +kernel
theorem dX12_isSort_49 : decode cX12_isSort 49 = .ok (.getfield 51, 3) := by decide +kernel
theorem dX12_isSort_52 : decode cX12_isSort 52 = .ok (.aload_n 0, 1) := by decide +kernel
theorem dX12_isSort_53 : decode cX12_isSort 53 = .ok (.getfield 106, 3) := by decide +kernel
theorem dX12_isSort_56 : decode cX12_isSort 56 = .ok (.aload_n 0, 1) := by decide +kernel
theorem dX12_isSort_57 : decode cX12_isSort 57 = .ok (.getfield 77, 3) := by decide +kernel
theorem dX12_isSort_60 : decode cX12_isSort 60 = .ok (.iastore, 1) := by decide +kernel
theorem dX12_isSort_61 : decode cX12_isSort 61 = .ok (.aload_n 0, 1) := by decide +kernel
theorem dX12_isSort_62 : decode cX12_isSort 62 = .ok (.dup, 1) := by decide +kernel
theorem dX12_isSort_63 : decode cX12_isSort 63 = .ok (.getfield 106, 3) := by decide +kernel
theorem dX12_isSort_66 : decode cX12_isSort 66 = .ok (.iconst 1, 1) := by decide +kernel
theorem dX12_isSort_67 : decode cX12_isSort 67 = .ok (.iadd, 1) := by decide +kernel
theorem dX12_isSort_68 : decode cX12_isSort 68 = .ok (.putfield 106, 3) := by decide +kernel
theorem dX12_isSort_71 : decode cX12_isSort 71 = .ok (.iconst 1, 1) := by decide +kernel
theorem dX12_isSort_72 : decode cX12_isSort 72 = .ok (.ireturn, 1) := by decide +kernel
theorem dX12_isItem_0 : decode cX12_isItem 0 = .ok (.aload_n 0, 1) := by decide +kernel
theorem dX12_isItem_1 : decode cX12_isItem 1 = .ok (.getfield 80, 3) := by decide +kernel
theorem dX12_isItem_4 : decode cX12_isItem 4 = .ok (.iconst 1, 1) := by decide +kernel
theorem dX12_isItem_5 : decode cX12_isItem 5 = .ok (.if_icmp .eq 5, 3) := by decide +kernel
theorem dX12_isItem_8 : decode cX12_isItem 8 = .ok (.iconst 0, 1) := by decide +kernel
theorem dX12_isItem_9 : decode cX12_isItem 9 = .ok (.ireturn, 1) := by decide +kernel
theorem dX12_isItem_10 : decode cX12_isItem 10 = .ok (.aload_n 0, 1) := by decide +kernel
theorem dX12_isItem_11 : decode cX12_isItem 11 = .ok (.getfield 77, 3) := by decide +kernel
theorem dX12_isItem_14 : decode cX12_isItem 14 = .ok (.lookupswitch 48 #[(104, 43), (114, 26)], 26) := by decide +kernel
theorem dX12_isItem_40 : decode cX12_isItem 40 = .ok (.iload_n 1, 1) := by decide +kernel
theorem dX12_isItem_41 : decode cX12_isItem 41 = .ok (.ifCond .ne 14, 3) := by decide +kernel
theorem dX12_isItem_44 : decode cX12_isItem 44 = .ok (.aload_n 0, 1) := by decide +kernel
theorem dX12_isItem_45 : decode cX12_isItem 45 = .ok (.invokevirtual 109, 3) := by decide +kernel
theorem dX12_isItem_48 : decode cX12_isItem 48 = .ok (.ifCond .eq 7, 3) := by decide +kernel
theorem dX12_isItem_51 : decode cX12_isItem 51 = .ok (.iconst 1, 1) := by decide +kernel
theorem dX12_isItem_52 : decode cX12_isItem 52 = .ok (.goto 4, 3) := by decide +kernel
theorem dX12_isItem_55 : decode cX12_isItem 55 = .ok (.iconst 0, 1) := by decide +kernel
theorem dX12_isItem_56 : decode cX12_isItem 56 = .ok (.ireturn, 1) := by decide +kernel
theorem dX12_isItem_57 : decode cX12_isItem 57 = .ok (.aload_n 0, 1) := by decide +kernel
theorem dX12_isItem_58 : decode cX12_isItem 58 = .ok (.invokevirtual 112, 3) := by decide +kernel
theorem dX12_isItem_61 : decode cX12_isItem 61 = .ok (.ireturn, 1) := by decide +kernel
theorem dX12_isItem_62 : decode cX12_isItem 62 = .ok (.aload_n 0, 1) := by decide +kernel
theorem dX12_isItem_63 : decode cX12_isItem 63 = .ok (.invokevirtual 115, 3) := by decide +kernel
theorem dX12_isItem_66 : decode cX12_isItem 66 = .ok (.ireturn, 1) := by decide +kernel
theorem dX12_reads_0 : decode cX12_reads 0 = .ok (.aload_n 0, 1) := by decide +kernel
theorem dX12_reads_1 : decode cX12_reads 1 = .ok (.iconst 4, 1) := by decide +kernel
theorem dX12_reads_2 : decode cX12_reads 2 = .ok (.putfield 97, 3) := by decide +kernel
theorem dX12_reads_5 : decode cX12_reads 5 = .ok (.aload_n 0, 1) := by decide +kernel
theorem dX12_reads_6 : decode cX12_reads 6 = .ok (.iconst 2, 1) := by decide +kernel
theorem dX12_reads_7 : decode cX12_reads 7 = .ok (.putfield 100, 3) := by decide +kernel
theorem dX12_reads_10 : decode cX12_reads 10 = .ok (.aload_n 0, 1) := by decide +kernel
theorem dX12_reads_11 : decode cX12_reads 11 = .ok (.bipush (-9), 2) := by decide +kernel
theorem dX12_reads_13 : decode cX12_reads 13 = .ok (.putfield 103, 3) := by decide +kernel
theorem dX12_reads_16 : decode cX12_reads 16 = .ok (.aload_n 0, 1) := by decide +kernel
theorem dX12_reads_17 : decode cX12_reads 17 = .ok (.iconst 0, 1) := by decide +kernel
theorem dX12_reads_18 : decode cX12_reads 18 = .ok (.putfield 106, 3) := by decide +kernel
theorem dX12_reads_21 : decode cX12_reads 21 = .ok (.aload_n 0, 1) := by decide +kernel
theorem dX12_reads_22 : decode cX12_reads 22 = .ok (.iconst 0, 1) := by decide +kernel
theorem dX12_reads_23 : decode cX12_reads 23 = .ok (.putfield 63, 3) := by decide +kernel
theorem dX12_reads_26 : decode cX12_reads 26 = .ok (.iconst 0, 1) := by decide +kernel
theorem dX12_reads_27 : decode cX12_reads 27 = .ok (.istore_n 1, 1) := by decide +kernel
theorem dX12_reads_28 : decode cX12_reads 28 = .ok (.aload_n 0, 1) := by decide +kernel
theorem dX12_reads_29 : decode cX12_reads 29 = .ok (.invokevirtual 90, 3) := by decide +kernel
theorem dX12_reads_32 : decode cX12_reads 32 = .ok (.aload_n 0, 1) := by decide +kernel
theorem dX12_reads_33 : decode cX12_reads 33 = .ok (.getfield 80, 3) := by decide +kernel
theorem dX12_reads_36 : decode cX12_reads 36 = .ok (.ifCond .eq 49, 3) := by decide +kernel
theorem dX12_reads_39 : decode cX12_reads 39 = .ok (.aload_n 0, 1) := by decide +kernel
theorem dX12_reads_40 : decode cX12_reads 40 = .ok (.iload_n 1, 1) := by decide +kernel
theorem dX12_reads_41 : decode cX12_reads 41 = .ok (.invokevirtual 118, 3) := by decide +kernel
theorem dX12_reads_44 : decode cX12_reads 44 = .ok (.ifCond .ne 11, 3) := by decide +kernel
theorem dX12_reads_47 : decode cX12_reads 47 = .ok (.bipush (-10), 2) := by decide +kernel
theorem dX12_reads_49 : decode cX12_reads 49 = .ok (.aload_n 0, 1) := by decide +kernel
theorem dX12_reads_50 : decode cX12_reads 50 = .ok (.getfield 74, 3) := by decide +kernel
theorem dX12_reads_53 : decode cX12_reads 53 = .ok (.isub, 1) := by decide +kernel
theorem dX12_reads_54 : decode cX12_reads 54 = .ok (.ireturn, 1) := by decide +kernel
theorem dX12_reads_55 : decode cX12_reads 55 = .ok (.aload_n 0, 1) := by decide +kernel
theorem dX12_reads_56 : decode cX12_reads 56 = .ok (.invokevirtual 90, 3) := by decide +kernel
theorem dX12_reads_59 : decode cX12_reads 59 = .ok (.aload_n 0, 1) := by decide +kernel
theorem dX12_reads_60 : decode cX12_reads 60 = .ok (.getfield 80, 3) := by decide +kernel
theorem dX12_reads_63 : decode cX12_reads 63 = .ok (.iconst 3, 1) := by decide +kernel
theorem dX12_reads_64 : decode cX12_reads 64 = .ok (.if_icmp .eq 11, 3) := by decide +kernel
theorem dX12_reads_67 : decode cX12_reads 67 = .ok (.bipush (-10), 2) := by decide +kernel
theorem dX12_reads_69 : decode cX12_reads 69 = .ok (.aload_n 0, 1) := by decide +kernel
theorem dX12_reads_70 : decode cX12_reads 70 = .ok (.getfield 74, 3) := by decide +kernel
theorem dX12_reads_73 : decode cX12_reads 73 = .ok (.isub, 1) := by decide +kernel
theorem dX12_reads_74 : decode cX12_reads 74 = .ok (.ireturn, 1) := by decide +kernel
theorem dX12_reads_75 : decode cX12_reads 75 = .ok (.iinc 1 1, 3) := by decide +kernel
theorem dX12_reads_78 : decode cX12_reads 78 = .ok (.aload_n 0, 1) := by decide +kernel
theorem dX12_reads_79 : decode cX12_reads 79 = .ok (.invokevirtual 90, 3) := by decide +kernel
theorem dX12_reads_82 : decode cX12_reads 82 = .ok (.goto (-50), 3) := by decide +kernel
theorem dX12_reads_85 : decode cX12_reads 85 = .ok (.iload_n 1, 1) := by decide +kernel
theorem dX12_reads_86 : decode cX12_reads 86 = .ok (.ireturn, 1) := by decide +kernel
theorem dX12_door_0 : decode cX12_door 0 = .ok (.aload_n 0, 1) := by decide +kernel
theorem dX12_door_1 : decode cX12_door 1 = .ok (.invokevirtual 122, 3) := by decide +kernel
theorem dX12_door_4 : decode cX12_door 4 = .ok (.istore_n 1, 1) := by decide +kernel
theorem dX12_door_5 : decode cX12_door 5 = .ok (.iload_n 1, 1) := by decide +kernel
theorem dX12_door_6 : decode cX12_door 6 = .ok (.ifCond .ge 5, 3) := by decide +kernel
theorem dX12_door_9 : decode cX12_door 9 = .ok (.iload_n 1, 1) := by decide +kernel
theorem dX12_door_10 : decode cX12_door 10 = .ok (.ireturn, 1) := by decide +kernel
theorem dX12_door_11 : decode cX12_door 11 = .ok (.aload_n 0, 1) := by decide +kernel
theorem dX12_door_12 : decode cX12_door 12 = .ok (.aload_n 0, 1) := by decide +kernel
theorem dX12_door_13 : decode cX12_door 13 = .ok (.getfield 97, 3) := by decide +kernel
theorem dX12_door_16 : decode cX12_door 16 = .ok (.putfield 7, 3) := by decide +kernel
theorem dX12_door_19 : decode cX12_door 19 = .ok (.aload_n 0, 1) := by decide +kernel
theorem dX12_door_20 : decode cX12_door 20 = .ok (.aload_n 0, 1) := by decide +kernel
theorem dX12_door_21 : decode cX12_door 21 = .ok (.getfield 100, 3) := by decide +kernel
theorem dX12_door_24 : decode cX12_door 24 = .ok (.putfield 13, 3) := by decide +kernel
theorem dX12_door_27 : decode cX12_door 27 = .ok (.aload_n 0, 1) := by decide +kernel
theorem dX12_door_28 : decode cX12_door 28 = .ok (.aload_n 0, 1) := by decide +kernel
theorem dX12_door_29 : decode cX12_door 29 = .ok (.getfield 103, 3) := by decide +kernel
theorem dX12_door_32 : decode cX12_door 32 = .ok (.bipush (-9), 2) := by decide +kernel
theorem dX12_door_34 : decode cX12_door 34 = .ok (.if_icmp .ne 7, 3) := by decide +kernel
theorem dX12_door_37 : decode cX12_door 37 = .ok (.iconst 3, 1) := by decide +kernel
theorem dX12_door_38 : decode cX12_door 38 = .ok (.goto 7, 3) := by decide +kernel
theorem dX12_door_41 : decode cX12_door 41 = .ok (.aload_n 0, 1) := by decide +kernel
theorem dX12_door_42 : decode cX12_door 42 = .ok (.getfield 103, 3) := by decide +kernel
theorem dX12_door_45 : decode cX12_door 45 = .ok (.putfield 16, 3) := by decide +kernel
theorem dX12_door_48 : decode cX12_door 48 = .ok (.aload_n 0, 1) := by decide +kernel
theorem dX12_door_49 : decode cX12_door 49 = .ok (.aload_n 0, 1) := by decide +kernel
theorem dX12_door_50 : decode cX12_door 50 = .ok (.getfield 106, 3) := by decide +kernel
theorem dX12_door_53 : decode cX12_door 53 = .ok (.putfield 125, 3) := by decide +kernel
theorem dX12_door_56 : decode cX12_door 56 = .ok (.aload_n 0, 1) := by decide +kernel
theorem dX12_door_57 : decode cX12_door 57 = .ok (.getfield 48, 3) := by decide +kernel
theorem dX12_door_60 : decode cX12_door 60 = .ok (.iconst 0, 1) := by decide +kernel
theorem dX12_door_61 : decode cX12_door 61 = .ok (.aload_n 0, 1) := by decide +kernel
theorem dX12_door_62 : decode cX12_door 62 = .ok (.getfield 19, 3) := by decide +kernel
theorem dX12_door_65 : decode cX12_door 65 = .ok (.iconst 0, 1) := by decide +kernel
theorem dX12_door_66 : decode cX12_door 66 = .ok (.bipush 6, 2) := by decide +kernel
theorem dX12_door_68 : decode cX12_door 68 = .ok (.invokestatic 128, 3) := by decide +kernel
theorem dX12_door_71 : decode cX12_door 71 = .ok (.aload_n 0, 1) := by decide +kernel
theorem dX12_door_72 : decode cX12_door 72 = .ok (.getfield 51, 3) := by decide +kernel
theorem dX12_door_75 : decode cX12_door 75 = .ok (.iconst 0, 1) := by decide +kernel
theorem dX12_door_76 : decode cX12_door 76 = .ok (.aload_n 0, 1) := by decide +kernel
theorem dX12_door_77 : decode cX12_door 77 = .ok (.getfield 23, 3) := by decide +kernel
theorem dX12_door_80 : decode cX12_door 80 = .ok (.iconst 0, 1) := by decide +kernel
theorem dX12_door_81 : decode cX12_door 81 = .ok (.bipush 6, 2) := by decide +kernel
theorem dX12_door_83 : decode cX12_door 83 = .ok (.invokestatic 128, 3) := by decide +kernel
theorem dX12_door_86 : decode cX12_door 86 = .ok (.iconst 0, 1) := by decide +kernel
theorem dX12_door_87 : decode cX12_door 87 = .ok (.istore_n 2, 1) := by decide +kernel
theorem dX12_door_88 : decode cX12_door 88 = .ok (.iload_n 2, 1) := by decide +kernel
theorem dX12_door_89 : decode cX12_door 89 = .ok (.bipush 47, 2) := by decide +kernel
theorem dX12_door_91 : decode cX12_door 91 = .ok (.if_icmp .ge 16, 3) := by decide +kernel
theorem dX12_door_94 : decode cX12_door 94 = .ok (.aload_n 0, 1) := by decide +kernel
theorem dX12_door_95 : decode cX12_door 95 = .ok (.getfield 26, 3) := by decide +kernel
theorem dX12_door_98 : decode cX12_door 98 = .ok (.iload_n 2, 1) := by decide +kernel
theorem dX12_door_99 : decode cX12_door 99 = .ok (.iconst 0, 1) := by decide +kernel
theorem dX12_door_100 : decode cX12_door 100 = .ok (.iastore, 1) := by decide +kernel
theorem dX12_door_101 : decode cX12_door 101 = .ok (.iinc 2 1, 3) := by decide +kernel
theorem dX12_door_104 : decode cX12_door 104 = .ok (.goto (-16), 3) := by decide +kernel
theorem dX12_door_107 : decode cX12_door 107 = .ok (.aload_n 0, 1) := by decide +kernel
theorem dX12_door_108 : decode cX12_door 108 = .ok (.iconst 0, 1) := by decide +kernel
theorem dX12_door_109 : decode cX12_door 109 = .ok (.putfield 132, 3) := by decide +kernel
theorem dX12_door_112 : decode cX12_door 112 = .ok (.aload_n 0, 1) := by decide +kernel
theorem dX12_door_113 : decode cX12_door 113 = .ok (.iconst 0, 1) := by decide +kernel
theorem dX12_door_114 : decode cX12_door 114 = .ok (.putfield 135, 3) := by decide +kernel
theorem dX12_door_117 : decode cX12_door 117 = .ok (.aload_n 0, 1) := by decide +kernel
theorem dX12_door_118 : decode cX12_door 118 = .ok (.getfield 38, 3) := by decide +kernel
theorem dX12_door_121 : decode cX12_door 121 = .ok (.iconst 0, 1) := by decide +kernel
theorem dX12_door_122 : decode cX12_door 122 = .ok (.iconst 0, 1) := by decide +kernel
theorem dX12_door_123 : decode cX12_door 123 = .ok (.bastore, 1) := by decide +kernel
theorem dX12_door_124 : decode cX12_door 124 = .ok (.aload_n 0, 1) := by decide +kernel
theorem dX12_door_125 : decode cX12_door 125 = .ok (.getfield 38, 3) := by decide +kernel
theorem dX12_door_128 : decode cX12_door 128 = .ok (.iconst 1, 1) := by decide +kernel
theorem dX12_door_129 : decode cX12_door 129 = .ok (.iconst 0, 1) := by decide +kernel
theorem dX12_door_130 : decode cX12_door 130 = .ok (.bastore, 1) := by decide +kernel
theorem dX12_door_131 : decode cX12_door 131 = .ok (.aload_n 0, 1) := by decide +kernel
theorem dX12_door_132 : decode cX12_door 132 = .ok (.iconst 0, 1) := by decide +kernel
theorem dX12_door_133 : decode cX12_door 133 = .ok (.putfield 60, 3) := by decide +kernel
theorem dX12_door_136 : decode cX12_door 136 = .ok (.iload_n 1, 1) := by decide +kernel
theorem dX12_door_137 : decode cX12_door 137 = .ok (.ireturn, 1) := by decide +kernel
theorem dX12_isBit_0 : decode cX12_isBit 0 = .ok (.iload_n 0, 1) := by decide +kernel
theorem dX12_isBit_1 : decode cX12_isBit 1 = .ok (.i2l, 1) := by decide +kernel
theorem dX12_isBit_2 : decode cX12_isBit 2 = .ok (.lconst 0, 1) := by decide +kernel
theorem dX12_isBit_3 : decode cX12_isBit 3 = .ok (.lconst 1, 1) := by decide +kernel
theorem dX12_isBit_4 : decode cX12_isBit 4 = .ok (.invokestatic 56, 3) := by decide +kernel
theorem dX12_isBit_7 : decode cX12_isBit 7 = .ok (.ireturn, 1) := by decide +kernel
theorem dX12_isGoer_0 : decode cX12_isGoer 0 = .ok (.iload_n 1, 1) := by decide +kernel
theorem dX12_isGoer_1 : decode cX12_isGoer 1 = .ok (.i2l, 1) := by decide +kernel
theorem dX12_isGoer_2 : decode cX12_isGoer 2 = .ok (.lconst 0, 1) := by decide +kernel
theorem dX12_isGoer_3 : decode cX12_isGoer 3 = .ok (.aload_n 0, 1) := by decide +kernel
theorem dX12_isGoer_4 : decode cX12_isGoer 4 = .ok (.getfield 26, 3) := by decide +kernel
theorem dX12_isGoer_7 : decode cX12_isGoer 7 = .ok (.iconst 0, 1) := by decide +kernel
theorem dX12_isGoer_8 : decode cX12_isGoer 8 = .ok (.iaload, 1) := by decide +kernel
theorem dX12_isGoer_9 : decode cX12_isGoer 9 = .ok (.iconst 1, 1) := by decide +kernel
theorem dX12_isGoer_10 : decode cX12_isGoer 10 = .ok (.isub, 1) := by decide +kernel
theorem dX12_isGoer_11 : decode cX12_isGoer 11 = .ok (.i2l, 1) := by decide +kernel
theorem dX12_isGoer_12 : decode cX12_isGoer 12 = .ok (.invokestatic 56, 3) := by decide +kernel
theorem dX12_isGoer_15 : decode cX12_isGoer 15 = .ok (.ireturn, 1) := by decide +kernel
theorem dX12_bulkOf_0 : decode cX12_bulkOf 0 = .ok (.aload_n 0, 1) := by decide +kernel
theorem dX12_bulkOf_1 : decode cX12_bulkOf 1 = .ok (.getfield 19, 3) := by decide +kernel
theorem dX12_bulkOf_4 : decode cX12_bulkOf 4 = .ok (.aload_n 1, 1) := by decide +kernel
theorem dX12_bulkOf_5 : decode cX12_bulkOf 5 = .ok (.iconst 2, 1) := by decide +kernel
theorem dX12_bulkOf_6 : decode cX12_bulkOf 6 = .ok (.iload_n 2, 1) := by decide +kernel
theorem dX12_bulkOf_7 : decode cX12_bulkOf 7 = .ok (.iadd, 1) := by decide +kernel
theorem dX12_bulkOf_8 : decode cX12_bulkOf 8 = .ok (.iaload, 1) := by decide +kernel
theorem dX12_bulkOf_9 : decode cX12_bulkOf 9 = .ok (.iaload, 1) := by decide +kernel
theorem dX12_bulkOf_10 : decode cX12_bulkOf 10 = .ok (.ireturn, 1) := by decide +kernel
theorem dX12_those_0 : decode cX12_those 0 = .ok (.iconst 0, 1) := by decide +kernel
theorem dX12_those_1 : decode cX12_those 1 = .ok (.istore_n 2, 1) := by decide +kernel
theorem dX12_those_2 : decode cX12_those 2 = .ok (.iconst 0, 1) := by decide +kernel
theorem dX12_those_3 : decode cX12_those 3 = .ok (.istore_n 3, 1) := by decide +kernel
theorem dX12_those_4 : decode cX12_those 4 = .ok (.iload_n 3, 1) := by decide +kernel
theorem dX12_those_5 : decode cX12_those 5 = .ok (.aload_n 0, 1) := by decide +kernel
theorem dX12_those_6 : decode cX12_those 6 = .ok (.iconst 0, 1) := by decide +kernel
theorem dX12_those_7 : decode cX12_those 7 = .ok (.iaload, 1) := by decide +kernel
theorem dX12_those_8 : decode cX12_those 8 = .ok (.if_icmp .ge 29, 3) := by decide +kernel
theorem dX12_those_11 : decode cX12_those 11 = .ok (.iload_n 2, 1) := by decide +kernel
theorem dX12_those_12 : decode cX12_those 12 = .ok (.aload_n 0, 1) := by decide +kernel
theorem dX12_those_13 : decode cX12_those 13 = .ok (.bipush 20, 2) := by decide +kernel
theorem dX12_those_15 : decode cX12_those 15 = .ok (.iload_n 3, 1) := by decide +kernel
theorem dX12_those_16 : decode cX12_those 16 = .ok (.iadd, 1) := by decide +kernel
theorem dX12_those_17 : decode cX12_those 17 = .ok (.iaload, 1) := by decide +kernel
theorem dX12_those_18 : decode cX12_those 18 = .ok (.iload_n 1, 1) := by decide +kernel
theorem dX12_those_19 : decode cX12_those 19 = .ok (.if_icmp .ne 9, 3) := by decide +kernel
theorem dX12_those_22 : decode cX12_those 22 = .ok (.iconst 1, 1) := by decide +kernel
theorem dX12_those_23 : decode cX12_those 23 = .ok (.iload_n 3, 1) := by decide +kernel
theorem dX12_those_24 : decode cX12_those 24 = .ok (.ishl, 1) := by decide +kernel
theorem dX12_those_25 : decode cX12_those 25 = .ok (.goto 4, 3) := by decide +kernel
theorem dX12_those_28 : decode cX12_those 28 = .ok (.iconst 0, 1) := by decide +kernel
theorem dX12_those_29 : decode cX12_those 29 = .ok (.ior, 1) := by decide +kernel
theorem dX12_those_30 : decode cX12_those 30 = .ok (.istore_n 2, 1) := by decide +kernel
theorem dX12_those_31 : decode cX12_those 31 = .ok (.iinc 3 1, 3) := by decide +kernel
theorem dX12_those_34 : decode cX12_those 34 = .ok (.goto (-30), 3) := by decide +kernel
theorem dX12_those_37 : decode cX12_those 37 = .ok (.iload_n 2, 1) := by decide +kernel
theorem dX12_those_38 : decode cX12_those 38 = .ok (.ireturn, 1) := by decide +kernel
theorem dX12_inRoom_0 : decode cX12_inRoom 0 = .ok (.iconst 0, 1) := by decide +kernel
theorem dX12_inRoom_1 : decode cX12_inRoom 1 = .ok (.istore_n 2, 1) := by decide +kernel
theorem dX12_inRoom_2 : decode cX12_inRoom 2 = .ok (.iconst 0, 1) := by decide +kernel
theorem dX12_inRoom_3 : decode cX12_inRoom 3 = .ok (.istore_n 3, 1) := by decide +kernel
theorem dX12_inRoom_4 : decode cX12_inRoom 4 = .ok (.iload_n 3, 1) := by decide +kernel
theorem dX12_inRoom_5 : decode cX12_inRoom 5 = .ok (.aload_n 0, 1) := by decide +kernel
theorem dX12_inRoom_6 : decode cX12_inRoom 6 = .ok (.iconst 0, 1) := by decide +kernel
theorem dX12_inRoom_7 : decode cX12_inRoom 7 = .ok (.iaload, 1) := by decide +kernel
theorem dX12_inRoom_8 : decode cX12_inRoom 8 = .ok (.if_icmp .ge 39, 3) := by decide +kernel
theorem dX12_inRoom_11 : decode cX12_inRoom 11 = .ok (.iload_n 2, 1) := by decide +kernel
theorem dX12_inRoom_12 : decode cX12_inRoom 12 = .ok (.aload_n 0, 1) := by decide +kernel
theorem dX12_inRoom_13 : decode cX12_inRoom 13 = .ok (.bipush 20, 2) := by decide +kernel
theorem dX12_inRoom_15 : decode cX12_inRoom 15 = .ok (.iload_n 3, 1) := by decide +kernel
theorem dX12_inRoom_16 : decode cX12_inRoom 16 = .ok (.iadd, 1) := by decide +kernel
theorem dX12_inRoom_17 : decode cX12_inRoom 17 = .ok (.iaload, 1) := by decide +kernel
theorem dX12_inRoom_18 : decode cX12_inRoom 18 = .ok (.iconst 1, 1) := by decide +kernel
theorem dX12_inRoom_19 : decode cX12_inRoom 19 = .ok (.if_icmp .ne 19, 3) := by decide +kernel
theorem dX12_inRoom_22 : decode cX12_inRoom 22 = .ok (.aload_n 0, 1) := by decide +kernel
theorem dX12_inRoom_23 : decode cX12_inRoom 23 = .ok (.bipush 29, 2) := by decide +kernel
theorem dX12_inRoom_25 : decode cX12_inRoom 25 = .ok (.iload_n 3, 1) := by decide +kernel
theorem dX12_inRoom_26 : decode cX12_inRoom 26 = .ok (.iadd, 1) := by decide +kernel
theorem dX12_inRoom_27 : decode cX12_inRoom 27 = .ok (.iaload, 1) := by decide +kernel
theorem dX12_inRoom_28 : decode cX12_inRoom 28 = .ok (.iload_n 1, 1) := by decide +kernel
theorem dX12_inRoom_29 : decode cX12_inRoom 29 = .ok (.if_icmp .ne 9, 3) := by decide +kernel
theorem dX12_inRoom_32 : decode cX12_inRoom 32 = .ok (.iconst 1, 1) := by decide +kernel
theorem dX12_inRoom_33 : decode cX12_inRoom 33 = .ok (.iload_n 3, 1) := by decide +kernel
theorem dX12_inRoom_34 : decode cX12_inRoom 34 = .ok (.ishl, 1) := by decide +kernel
theorem dX12_inRoom_35 : decode cX12_inRoom 35 = .ok (.goto 4, 3) := by decide +kernel
theorem dX12_inRoom_38 : decode cX12_inRoom 38 = .ok (.iconst 0, 1) := by decide +kernel
theorem dX12_inRoom_39 : decode cX12_inRoom 39 = .ok (.ior, 1) := by decide +kernel
theorem dX12_inRoom_40 : decode cX12_inRoom 40 = .ok (.istore_n 2, 1) := by decide +kernel
theorem dX12_inRoom_41 : decode cX12_inRoom 41 = .ok (.iinc 3 1, 3) := by decide +kernel
theorem dX12_inRoom_44 : decode cX12_inRoom 44 = .ok (.goto (-40), 3) := by decide +kernel
theorem dX12_inRoom_47 : decode cX12_inRoom 47 = .ok (.iload_n 2, 1) := by decide +kernel
theorem dX12_inRoom_48 : decode cX12_inRoom 48 = .ok (.ireturn, 1) := by decide +kernel
theorem dX12_bulkIn_0 : decode cX12_bulkIn 0 = .ok (.iconst 0, 1) := by decide +kernel
theorem dX12_bulkIn_1 : decode cX12_bulkIn 1 = .ok (.istore_n 3, 1) := by decide +kernel
theorem dX12_bulkIn_2 : decode cX12_bulkIn 2 = .ok (.iconst 0, 1) := by decide +kernel
theorem dX12_bulkIn_3 : decode cX12_bulkIn 3 = .ok (.istore 4, 2) := by decide +kernel
theorem dX12_bulkIn_5 : decode cX12_bulkIn 5 = .ok (.iload 4, 2) := by decide +kernel
theorem dX12_bulkIn_7 : decode cX12_bulkIn 7 = .ok (.aload_n 1, 1) := by decide +kernel
theorem dX12_bulkIn_8 : decode cX12_bulkIn 8 = .ok (.iconst 0, 1) := by decide +kernel
theorem dX12_bulkIn_9 : decode cX12_bulkIn 9 = .ok (.iaload, 1) := by decide +kernel
theorem dX12_bulkIn_10 : decode cX12_bulkIn 10 = .ok (.if_icmp .ge 36, 3) := by decide +kernel
theorem dX12_bulkIn_13 : decode cX12_bulkIn 13 = .ok (.iload_n 3, 1) := by decide +kernel
theorem dX12_bulkIn_14 : decode cX12_bulkIn 14 = .ok (.aload_n 1, 1) := by decide +kernel
theorem dX12_bulkIn_15 : decode cX12_bulkIn 15 = .ok (.iload_n 2, 1) := by decide +kernel
theorem dX12_bulkIn_16 : decode cX12_bulkIn 16 = .ok (.invokestatic 138, 3) := by decide +kernel
theorem dX12_bulkIn_19 : decode cX12_bulkIn 19 = .ok (.iload 4, 2) := by decide +kernel
theorem dX12_bulkIn_21 : decode cX12_bulkIn 21 = .ok (.invokestatic 142, 3) := by decide +kernel
theorem dX12_bulkIn_24 : decode cX12_bulkIn 24 = .ok (.ifCond .eq 13, 3) := by decide +kernel
theorem dX12_bulkIn_27 : decode cX12_bulkIn 27 = .ok (.aload_n 0, 1) := by decide +kernel
theorem dX12_bulkIn_28 : decode cX12_bulkIn 28 = .ok (.aload_n 1, 1) := by decide +kernel
theorem dX12_bulkIn_29 : decode cX12_bulkIn 29 = .ok (.iload 4, 2) := by decide +kernel
theorem dX12_bulkIn_31 : decode cX12_bulkIn 31 = .ok (.invokevirtual 145, 3) := by decide +kernel
theorem dX12_bulkIn_34 : decode cX12_bulkIn 34 = .ok (.goto 4, 3) := by decide +kernel
theorem dX12_bulkIn_37 : decode cX12_bulkIn 37 = .ok (.iconst 0, 1) := by decide +kernel
theorem dX12_bulkIn_38 : decode cX12_bulkIn 38 = .ok (.iadd, 1) := by decide +kernel
theorem dX12_bulkIn_39 : decode cX12_bulkIn 39 = .ok (.istore_n 3, 1) := by decide +kernel
theorem dX12_bulkIn_40 : decode cX12_bulkIn 40 = .ok (.iinc 4 1, 3) := by decide +kernel
theorem dX12_bulkIn_43 : decode cX12_bulkIn 43 = .ok (.goto (-38), 3) := by decide +kernel
theorem dX12_bulkIn_46 : decode cX12_bulkIn 46 = .ok (.iload_n 3, 1) := by decide +kernel
theorem dX12_bulkIn_47 : decode cX12_bulkIn 47 = .ok (.ireturn, 1) := by decide +kernel
theorem dX12_firstOn_0 : decode cX12_firstOn 0 = .ok (.bipush (-9), 2) := by decide +kernel
theorem dX12_firstOn_2 : decode cX12_firstOn 2 = .ok (.istore_n 2, 1) := by decide +kernel
theorem dX12_firstOn_3 : decode cX12_firstOn 3 = .ok (.iconst 0, 1) := by decide +kernel
theorem dX12_firstOn_4 : decode cX12_firstOn 4 = .ok (.istore_n 3, 1) := by decide +kernel
theorem dX12_firstOn_5 : decode cX12_firstOn 5 = .ok (.iload_n 3, 1) := by decide +kernel
theorem dX12_firstOn_6 : decode cX12_firstOn 6 = .ok (.aload_n 0, 1) := by decide +kernel
theorem dX12_firstOn_7 : decode cX12_firstOn 7 = .ok (.iconst 0, 1) := by decide +kernel
theorem dX12_firstOn_8 : decode cX12_firstOn 8 = .ok (.iaload, 1) := by decide +kernel
theorem dX12_firstOn_9 : decode cX12_firstOn 9 = .ok (.if_icmp .ge 67, 3) := by decide +kernel
theorem dX12_firstOn_12 : decode cX12_firstOn 12 = .ok (.aload_n 0, 1) := by decide +kernel
theorem dX12_firstOn_13 : decode cX12_firstOn 13 = .ok (.bipush 20, 2) := by decide +kernel
theorem dX12_firstOn_15 : decode cX12_firstOn 15 = .ok (.iload_n 3, 1) := by decide +kernel
theorem dX12_firstOn_16 : decode cX12_firstOn 16 = .ok (.iadd, 1) := by decide +kernel
theorem dX12_firstOn_17 : decode cX12_firstOn 17 = .ok (.iaload, 1) := by decide +kernel
theorem dX12_firstOn_18 : decode cX12_firstOn 18 = .ok (.ifCond .ne 17, 3) := by decide +kernel
theorem dX12_firstOn_21 : decode cX12_firstOn 21 = .ok (.aload_n 0, 1) := by decide +kernel
theorem dX12_firstOn_22 : decode cX12_firstOn 22 = .ok (.bipush 11, 2) := by decide +kernel
theorem dX12_firstOn_24 : decode cX12_firstOn 24 = .ok (.iload_n 3, 1) := by decide +kernel
theorem dX12_firstOn_25 : decode cX12_firstOn 25 = .ok (.iadd, 1) := by decide +kernel
theorem dX12_firstOn_26 : decode cX12_firstOn 26 = .ok (.iaload, 1) := by decide +kernel
theorem dX12_firstOn_27 : decode cX12_firstOn 27 = .ok (.iload_n 1, 1) := by decide +kernel
theorem dX12_firstOn_28 : decode cX12_firstOn 28 = .ok (.if_icmp .ne 7, 3) := by decide +kernel
theorem dX12_firstOn_31 : decode cX12_firstOn 31 = .ok (.iconst 1, 1) := by decide +kernel
theorem dX12_firstOn_32 : decode cX12_firstOn 32 = .ok (.goto 4, 3) := by decide +kernel
theorem dX12_firstOn_35 : decode cX12_firstOn 35 = .ok (.iconst 0, 1) := by decide +kernel
theorem dX12_firstOn_36 : decode cX12_firstOn 36 = .ok (.istore 4, 2) := by decide +kernel
theorem dX12_firstOn_38 : decode cX12_firstOn 38 = .ok (.iload 4, 2) := by decide +kernel
theorem dX12_firstOn_40 : decode cX12_firstOn 40 = .ok (.ifCond .eq 28, 3) := by decide +kernel
theorem dX12_firstOn_43 : decode cX12_firstOn 43 = .ok (.iload_n 2, 1) := by decide +kernel
theorem dX12_firstOn_44 : decode cX12_firstOn 44 = .ok (.bipush (-9), 2) := by decide +kernel
theorem dX12_firstOn_46 : decode cX12_firstOn 46 = .ok (.if_icmp .eq 18, 3) := by decide +kernel
theorem dX12_firstOn_49 : decode cX12_firstOn 49 = .ok (.aload_n 0, 1) := by decide +kernel
theorem dX12_firstOn_50 : decode cX12_firstOn 50 = .ok (.bipush 38, 2) := by decide +kernel
theorem dX12_firstOn_52 : decode cX12_firstOn 52 = .ok (.iload_n 3, 1) := by decide +kernel
theorem dX12_firstOn_53 : decode cX12_firstOn 53 = .ok (.iadd, 1) := by decide +kernel
theorem dX12_firstOn_54 : decode cX12_firstOn 54 = .ok (.iaload, 1) := by decide +kernel
theorem dX12_firstOn_55 : decode cX12_firstOn 55 = .ok (.aload_n 0, 1) := by decide +kernel
theorem dX12_firstOn_56 : decode cX12_firstOn 56 = .ok (.bipush 38, 2) := by decide +kernel
theorem dX12_firstOn_58 : decode cX12_firstOn 58 = .ok (.iload_n 2, 1) := by decide +kernel
theorem dX12_firstOn_59 : decode cX12_firstOn 59 = .ok (.iadd, 1) := by decide +kernel
theorem dX12_firstOn_60 : decode cX12_firstOn 60 = .ok (.iaload, 1) := by decide +kernel
theorem dX12_firstOn_61 : decode cX12_firstOn 61 = .ok (.if_icmp .ge 7, 3) := by decide +kernel
theorem dX12_firstOn_64 : decode cX12_firstOn 64 = .ok (.iload_n 3, 1) := by decide +kernel
theorem dX12_firstOn_65 : decode cX12_firstOn 65 = .ok (.goto 4, 3) := by decide +kernel
theorem dX12_firstOn_68 : decode cX12_firstOn 68 = .ok (.iload_n 2, 1) := by decide +kernel
theorem dX12_firstOn_69 : decode cX12_firstOn 69 = .ok (.istore_n 2, 1) := by decide +kernel
theorem dX12_firstOn_70 : decode cX12_firstOn 70 = .ok (.iinc 3 1, 3) := by decide +kernel
theorem dX12_firstOn_73 : decode cX12_firstOn 73 = .ok (.goto (-68), 3) := by decide +kernel
theorem dX12_firstOn_76 : decode cX12_firstOn 76 = .ok (.iload_n 2, 1) := by decide +kernel
theorem dX12_firstOn_77 : decode cX12_firstOn 77 = .ok (.ireturn, 1) := by decide +kernel
theorem dX12_placeOf_0 : decode cX12_placeOf 0 = .ok (.iload_n 1, 1) := by decide +kernel
theorem dX12_placeOf_1 : decode cX12_placeOf 1 = .ok (.ifCond .ne 7, 3) := by decide +kernel
theorem dX12_placeOf_4 : decode cX12_placeOf 4 = .ok (.iconst 0, 1) := by decide +kernel
theorem dX12_placeOf_5 : decode cX12_placeOf 5 = .ok (.goto 9, 3) := by decide +kernel
theorem dX12_placeOf_8 : decode cX12_placeOf 8 = .ok (.aload_n 0, 1) := by decide +kernel
theorem dX12_placeOf_9 : decode cX12_placeOf 9 = .ok (.getfield 7, 3) := by decide +kernel
theorem dX12_placeOf_12 : decode cX12_placeOf 12 = .ok (.iconst 2, 1) := by decide +kernel
theorem dX12_placeOf_13 : decode cX12_placeOf 13 = .ok (.idiv, 1) := by decide +kernel
theorem dX12_placeOf_14 : decode cX12_placeOf 14 = .ok (.ireturn, 1) := by decide +kernel
theorem dX12_fills_0 : decode cX12_fills 0 = .ok (.iconst 0, 1) := by decide +kernel
theorem dX12_fills_1 : decode cX12_fills 1 = .ok (.istore_n 2, 1) := by decide +kernel
theorem dX12_fills_2 : decode cX12_fills 2 = .ok (.iload_n 2, 1) := by decide +kernel
theorem dX12_fills_3 : decode cX12_fills 3 = .ok (.iconst 2, 1) := by decide +kernel
theorem dX12_fills_4 : decode cX12_fills 4 = .ok (.if_icmp .ge 72, 3) := by decide +kernel
theorem dX12_fills_7 : decode cX12_fills 7 = .ok (.aload_n 1, 1) := by decide +kernel
theorem dX12_fills_8 : decode cX12_fills 8 = .ok (.iload_n 2, 1) := by decide +kernel
theorem dX12_fills_9 : decode cX12_fills 9 = .ok (.invokestatic 148, 3) := by decide +kernel
theorem dX12_fills_12 : decode cX12_fills 12 = .ok (.istore_n 3, 1) := by decide +kernel
theorem dX12_fills_13 : decode cX12_fills 13 = .ok (.iload_n 3, 1) := by decide +kernel
theorem dX12_fills_14 : decode cX12_fills 14 = .ok (.bipush (-9), 2) := by decide +kernel
theorem dX12_fills_16 : decode cX12_fills 16 = .ok (.if_icmp .eq 54, 3) := by decide +kernel
theorem dX12_fills_19 : decode cX12_fills 19 = .ok (.aload_n 0, 1) := by decide +kernel
theorem dX12_fills_20 : decode cX12_fills 20 = .ok (.aload_n 1, 1) := by decide +kernel
theorem dX12_fills_21 : decode cX12_fills 21 = .ok (.aload_n 0, 1) := by decide +kernel
theorem dX12_fills_22 : decode cX12_fills 22 = .ok (.iload_n 2, 1) := by decide +kernel
theorem dX12_fills_23 : decode cX12_fills 23 = .ok (.invokevirtual 151, 3) := by decide +kernel
theorem dX12_fills_26 : decode cX12_fills 26 = .ok (.invokevirtual 155, 3) := by decide +kernel
theorem dX12_fills_29 : decode cX12_fills 29 = .ok (.aload_n 0, 1) := by decide +kernel
theorem dX12_fills_30 : decode cX12_fills 30 = .ok (.aload_n 1, 1) := by decide +kernel
theorem dX12_fills_31 : decode cX12_fills 31 = .ok (.iload_n 3, 1) := by decide +kernel
theorem dX12_fills_32 : decode cX12_fills 32 = .ok (.invokevirtual 145, 3) := by decide +kernel
theorem dX12_fills_35 : decode cX12_fills 35 = .ok (.iadd, 1) := by decide +kernel
theorem dX12_fills_36 : decode cX12_fills 36 = .ok (.aload_n 0, 1) := by decide +kernel
theorem dX12_fills_37 : decode cX12_fills 37 = .ok (.getfield 13, 3) := by decide +kernel
theorem dX12_fills_40 : decode cX12_fills 40 = .ok (.if_icmp .gt 30, 3) := by decide +kernel
theorem dX12_fills_43 : decode cX12_fills 43 = .ok (.aload_n 1, 1) := by decide +kernel
theorem dX12_fills_44 : decode cX12_fills 44 = .ok (.bipush 20, 2) := by decide +kernel
theorem dX12_fills_46 : decode cX12_fills 46 = .ok (.iload_n 3, 1) := by decide +kernel
theorem dX12_fills_47 : decode cX12_fills 47 = .ok (.iadd, 1) := by decide +kernel
theorem dX12_fills_48 : decode cX12_fills 48 = .ok (.iconst 1, 1) := by decide +kernel
theorem dX12_fills_49 : decode cX12_fills 49 = .ok (.iastore, 1) := by decide +kernel
theorem dX12_fills_50 : decode cX12_fills 50 = .ok (.aload_n 1, 1) := by decide +kernel
theorem dX12_fills_51 : decode cX12_fills 51 = .ok (.bipush 29, 2) := by decide +kernel
theorem dX12_fills_53 : decode cX12_fills 53 = .ok (.iload_n 3, 1) := by decide +kernel
theorem dX12_fills_54 : decode cX12_fills 54 = .ok (.iadd, 1) := by decide +kernel
theorem dX12_fills_55 : decode cX12_fills 55 = .ok (.aload_n 0, 1) := by decide +kernel
theorem dX12_fills_56 : decode cX12_fills 56 = .ok (.iload_n 2, 1) := by decide +kernel
theorem dX12_fills_57 : decode cX12_fills 57 = .ok (.invokevirtual 151, 3) := by decide +kernel
theorem dX12_fills_60 : decode cX12_fills 60 = .ok (.iastore, 1) := by decide +kernel
theorem dX12_fills_61 : decode cX12_fills 61 = .ok (.aload_n 1, 1) := by decide +kernel
theorem dX12_fills_62 : decode cX12_fills 62 = .ok (.iload_n 2, 1) := by decide +kernel
theorem dX12_fills_63 : decode cX12_fills 63 = .ok (.invokestatic 148, 3) := by decide +kernel
theorem dX12_fills_66 : decode cX12_fills 66 = .ok (.istore_n 3, 1) := by decide +kernel
theorem dX12_fills_67 : decode cX12_fills 67 = .ok (.goto (-54), 3) := by decide +kernel
theorem dX12_fills_70 : decode cX12_fills 70 = .ok (.iinc 2 1, 3) := by decide +kernel
theorem dX12_fills_73 : decode cX12_fills 73 = .ok (.goto (-71), 3) := by decide +kernel
theorem dX12_fills_76 : decode cX12_fills 76 = .ok (.return_, 1) := by decide +kernel
theorem dX12_loadOn_0 : decode cX12_loadOn 0 = .ok (.iconst 0, 1) := by decide +kernel
theorem dX12_loadOn_1 : decode cX12_loadOn 1 = .ok (.istore_n 2, 1) := by decide +kernel
theorem dX12_loadOn_2 : decode cX12_loadOn 2 = .ok (.iconst 0, 1) := by decide +kernel
theorem dX12_loadOn_3 : decode cX12_loadOn 3 = .ok (.istore_n 3, 1) := by decide +kernel
theorem dX12_loadOn_4 : decode cX12_loadOn 4 = .ok (.iload_n 3, 1) := by decide +kernel
theorem dX12_loadOn_5 : decode cX12_loadOn 5 = .ok (.aload_n 1, 1) := by decide +kernel
theorem dX12_loadOn_6 : decode cX12_loadOn 6 = .ok (.iconst 0, 1) := by decide +kernel
theorem dX12_loadOn_7 : decode cX12_loadOn 7 = .ok (.iaload, 1) := by decide +kernel
theorem dX12_loadOn_8 : decode cX12_loadOn 8 = .ok (.if_icmp .ge 36, 3) := by decide +kernel
theorem dX12_loadOn_11 : decode cX12_loadOn 11 = .ok (.iload_n 2, 1) := by decide +kernel
theorem dX12_loadOn_12 : decode cX12_loadOn 12 = .ok (.aload_n 1, 1) := by decide +kernel
theorem dX12_loadOn_13 : decode cX12_loadOn 13 = .ok (.bipush 20, 2) := by decide +kernel
theorem dX12_loadOn_15 : decode cX12_loadOn 15 = .ok (.iload_n 3, 1) := by decide +kernel
theorem dX12_loadOn_16 : decode cX12_loadOn 16 = .ok (.iadd, 1) := by decide +kernel
theorem dX12_loadOn_17 : decode cX12_loadOn 17 = .ok (.iaload, 1) := by decide +kernel
theorem dX12_loadOn_18 : decode cX12_loadOn 18 = .ok (.iconst 1, 1) := by decide +kernel
theorem dX12_loadOn_19 : decode cX12_loadOn 19 = .ok (.if_icmp .ne 16, 3) := by decide +kernel
theorem dX12_loadOn_22 : decode cX12_loadOn 22 = .ok (.aload_n 0, 1) := by decide +kernel
theorem dX12_loadOn_23 : decode cX12_loadOn 23 = .ok (.getfield 23, 3) := by decide +kernel
theorem dX12_loadOn_26 : decode cX12_loadOn 26 = .ok (.aload_n 1, 1) := by decide +kernel
theorem dX12_loadOn_27 : decode cX12_loadOn 27 = .ok (.iconst 2, 1) := by decide +kernel
theorem dX12_loadOn_28 : decode cX12_loadOn 28 = .ok (.iload_n 3, 1) := by decide +kernel
theorem dX12_loadOn_29 : decode cX12_loadOn 29 = .ok (.iadd, 1) := by decide +kernel
theorem dX12_loadOn_30 : decode cX12_loadOn 30 = .ok (.iaload, 1) := by decide +kernel
theorem dX12_loadOn_31 : decode cX12_loadOn 31 = .ok (.iaload, 1) := by decide +kernel
theorem dX12_loadOn_32 : decode cX12_loadOn 32 = .ok (.goto 4, 3) := by decide +kernel
theorem dX12_loadOn_35 : decode cX12_loadOn 35 = .ok (.iconst 0, 1) := by decide +kernel
theorem dX12_loadOn_36 : decode cX12_loadOn 36 = .ok (.iadd, 1) := by decide +kernel
theorem dX12_loadOn_37 : decode cX12_loadOn 37 = .ok (.istore_n 2, 1) := by decide +kernel
theorem dX12_loadOn_38 : decode cX12_loadOn 38 = .ok (.iinc 3 1, 3) := by decide +kernel
theorem dX12_loadOn_41 : decode cX12_loadOn 41 = .ok (.goto (-37), 3) := by decide +kernel
theorem dX12_loadOn_44 : decode cX12_loadOn 44 = .ok (.iload_n 2, 1) := by decide +kernel
theorem dX12_loadOn_45 : decode cX12_loadOn 45 = .ok (.ireturn, 1) := by decide +kernel
theorem dX12_dragOn_0 : decode cX12_dragOn 0 = .ok (.aload_n 0, 1) := by decide +kernel
theorem dX12_dragOn_1 : decode cX12_dragOn 1 = .ok (.getfield 16, 3) := by decide +kernel
theorem dX12_dragOn_4 : decode cX12_dragOn 4 = .ok (.aload_n 1, 1) := by decide +kernel
theorem dX12_dragOn_5 : decode cX12_dragOn 5 = .ok (.iconst 1, 1) := by decide +kernel
theorem dX12_dragOn_6 : decode cX12_dragOn 6 = .ok (.invokestatic 158, 3) := by decide +kernel
theorem dX12_dragOn_9 : decode cX12_dragOn 9 = .ok (.invokestatic 161, 3) := by decide +kernel
theorem dX12_dragOn_12 : decode cX12_dragOn 12 = .ok (.iadd, 1) := by decide +kernel
theorem dX12_dragOn_13 : decode cX12_dragOn 13 = .ok (.ireturn, 1) := by decide +kernel
theorem dX12_sticksOn_0 : decode cX12_sticksOn 0 = .ok (.aload_n 1, 1) := by decide +kernel
theorem dX12_sticksOn_1 : decode cX12_sticksOn 1 = .ok (.iconst 1, 1) := by decide +kernel
theorem dX12_sticksOn_2 : decode cX12_sticksOn 2 = .ok (.invokestatic 158, 3) := by decide +kernel
theorem dX12_sticksOn_5 : decode cX12_sticksOn 5 = .ok (.ifCond .eq 16, 3) := by decide +kernel
theorem dX12_sticksOn_8 : decode cX12_sticksOn 8 = .ok (.aload_n 0, 1) := by decide +kernel
theorem dX12_sticksOn_9 : decode cX12_sticksOn 9 = .ok (.aload_n 1, 1) := by decide +kernel
theorem dX12_sticksOn_10 : decode cX12_sticksOn 10 = .ok (.invokevirtual 164, 3) := by decide +kernel
theorem dX12_sticksOn_13 : decode cX12_sticksOn 13 = .ok (.aload_n 0, 1) := by decide +kernel
theorem dX12_sticksOn_14 : decode cX12_sticksOn 14 = .ok (.aload_n 1, 1) := by decide +kernel
theorem dX12_sticksOn_15 : decode cX12_sticksOn 15 = .ok (.invokevirtual 168, 3) := by decide +kernel
theorem dX12_sticksOn_18 : decode cX12_sticksOn 18 = .ok (.if_icmp .ge 7, 3) := by decide +kernel
theorem dX12_sticksOn_21 : decode cX12_sticksOn 21 = .ok (.iconst 1, 1) := by decide +kernel
theorem dX12_sticksOn_22 : decode cX12_sticksOn 22 = .ok (.goto 4, 3) := by decide +kernel
theorem dX12_sticksOn_25 : decode cX12_sticksOn 25 = .ok (.iconst 0, 1) := by decide +kernel
theorem dX12_sticksOn_26 : decode cX12_sticksOn 26 = .ok (.ireturn, 1) := by decide +kernel
theorem dX12_goes_0 : decode cX12_goes 0 = .ok (.iconst 0, 1) := by decide +kernel
theorem dX12_goes_1 : decode cX12_goes 1 = .ok (.istore_n 2, 1) := by decide +kernel
theorem dX12_goes_2 : decode cX12_goes 2 = .ok (.aload_n 0, 1) := by decide +kernel
theorem dX12_goes_3 : decode cX12_goes 3 = .ok (.aload_n 1, 1) := by decide +kernel
theorem dX12_goes_4 : decode cX12_goes 4 = .ok (.invokevirtual 171, 3) := by decide +kernel
theorem dX12_goes_7 : decode cX12_goes 7 = .ok (.ifCond .ne 109, 3) := by decide +kernel
theorem dX12_goes_10 : decode cX12_goes 10 = .ok (.iconst 0, 1) := by decide +kernel
theorem dX12_goes_11 : decode cX12_goes 11 = .ok (.istore_n 3, 1) := by decide +kernel
theorem dX12_goes_12 : decode cX12_goes 12 = .ok (.iload_n 3, 1) := by decide +kernel
theorem dX12_goes_13 : decode cX12_goes 13 = .ok (.aload_n 1, 1) := by decide +kernel
theorem dX12_goes_14 : decode cX12_goes 14 = .ok (.iconst 0, 1) := by decide +kernel
theorem dX12_goes_15 : decode cX12_goes 15 = .ok (.iaload, 1) := by decide +kernel
theorem dX12_goes_16 : decode cX12_goes 16 = .ok (.if_icmp .ge 95, 3) := by decide +kernel
theorem dX12_goes_19 : decode cX12_goes 19 = .ok (.aload_n 1, 1) := by decide +kernel
theorem dX12_goes_20 : decode cX12_goes 20 = .ok (.bipush 20, 2) := by decide +kernel
theorem dX12_goes_22 : decode cX12_goes 22 = .ok (.iload_n 3, 1) := by decide +kernel
theorem dX12_goes_23 : decode cX12_goes 23 = .ok (.iadd, 1) := by decide +kernel
theorem dX12_goes_24 : decode cX12_goes 24 = .ok (.iaload, 1) := by decide +kernel
theorem dX12_goes_25 : decode cX12_goes 25 = .ok (.iconst 1, 1) := by decide +kernel
theorem dX12_goes_26 : decode cX12_goes 26 = .ok (.if_icmp .ne 79, 3) := by decide +kernel
theorem dX12_goes_29 : decode cX12_goes 29 = .ok (.aload_n 1, 1) := by decide +kernel
theorem dX12_goes_30 : decode cX12_goes 30 = .ok (.bipush 29, 2) := by decide +kernel
theorem dX12_goes_32 : decode cX12_goes 32 = .ok (.iload_n 3, 1) := by decide +kernel
theorem dX12_goes_33 : decode cX12_goes 33 = .ok (.iadd, 1) := by decide +kernel
theorem dX12_goes_34 : decode cX12_goes 34 = .ok (.aload_n 1, 1) := by decide +kernel
theorem dX12_goes_35 : decode cX12_goes 35 = .ok (.bipush 29, 2) := by decide +kernel
theorem dX12_goes_37 : decode cX12_goes 37 = .ok (.iload_n 3, 1) := by decide +kernel
theorem dX12_goes_38 : decode cX12_goes 38 = .ok (.iadd, 1) := by decide +kernel
theorem dX12_goes_39 : decode cX12_goes 39 = .ok (.iaload, 1) := by decide +kernel
theorem dX12_goes_40 : decode cX12_goes 40 = .ok (.iconst 1, 1) := by decide +kernel
theorem dX12_goes_41 : decode cX12_goes 41 = .ok (.iadd, 1) := by decide +kernel
theorem dX12_goes_42 : decode cX12_goes 42 = .ok (.aload_n 0, 1) := by decide +kernel
theorem dX12_goes_43 : decode cX12_goes 43 = .ok (.getfield 7, 3) := by decide +kernel
theorem dX12_goes_46 : decode cX12_goes 46 = .ok (.irem, 1) := by decide +kernel
theorem dX12_goes_47 : decode cX12_goes 47 = .ok (.iastore, 1) := by decide +kernel
theorem dX12_goes_48 : decode cX12_goes 48 = .ok (.aload_n 1, 1) := by decide +kernel
theorem dX12_goes_49 : decode cX12_goes 49 = .ok (.bipush 29, 2) := by decide +kernel
theorem dX12_goes_51 : decode cX12_goes 51 = .ok (.iload_n 3, 1) := by decide +kernel
theorem dX12_goes_52 : decode cX12_goes 52 = .ok (.iadd, 1) := by decide +kernel
theorem dX12_goes_53 : decode cX12_goes 53 = .ok (.iaload, 1) := by decide +kernel
theorem dX12_goes_54 : decode cX12_goes 54 = .ok (.aload_n 0, 1) := by decide +kernel
theorem dX12_goes_55 : decode cX12_goes 55 = .ok (.iconst 1, 1) := by decide +kernel
theorem dX12_goes_56 : decode cX12_goes 56 = .ok (.aload_n 1, 1) := by decide +kernel
theorem dX12_goes_57 : decode cX12_goes 57 = .ok (.bipush 11, 2) := by decide +kernel
theorem dX12_goes_59 : decode cX12_goes 59 = .ok (.iload_n 3, 1) := by decide +kernel
theorem dX12_goes_60 : decode cX12_goes 60 = .ok (.iadd, 1) := by decide +kernel
theorem dX12_goes_61 : decode cX12_goes 61 = .ok (.iaload, 1) := by decide +kernel
theorem dX12_goes_62 : decode cX12_goes 62 = .ok (.isub, 1) := by decide +kernel
theorem dX12_goes_63 : decode cX12_goes 63 = .ok (.invokevirtual 151, 3) := by decide +kernel
theorem dX12_goes_66 : decode cX12_goes 66 = .ok (.if_icmp .ne 7, 3) := by decide +kernel
theorem dX12_goes_69 : decode cX12_goes 69 = .ok (.iconst 1, 1) := by decide +kernel
theorem dX12_goes_70 : decode cX12_goes 70 = .ok (.goto 4, 3) := by decide +kernel
theorem dX12_goes_73 : decode cX12_goes 73 = .ok (.iconst 0, 1) := by decide +kernel
theorem dX12_goes_74 : decode cX12_goes 74 = .ok (.istore 4, 2) := by decide +kernel
theorem dX12_goes_76 : decode cX12_goes 76 = .ok (.aload_n 1, 1) := by decide +kernel
theorem dX12_goes_77 : decode cX12_goes 77 = .ok (.bipush 20, 2) := by decide +kernel
theorem dX12_goes_79 : decode cX12_goes 79 = .ok (.iload_n 3, 1) := by decide +kernel
theorem dX12_goes_80 : decode cX12_goes 80 = .ok (.iadd, 1) := by decide +kernel
theorem dX12_goes_81 : decode cX12_goes 81 = .ok (.iload 4, 2) := by decide +kernel
theorem dX12_goes_83 : decode cX12_goes 83 = .ok (.ifCond .eq 7, 3) := by decide +kernel
theorem dX12_goes_86 : decode cX12_goes 86 = .ok (.iconst 2, 1) := by decide +kernel
theorem dX12_goes_87 : decode cX12_goes 87 = .ok (.goto 4, 3) := by decide +kernel
theorem dX12_goes_90 : decode cX12_goes 90 = .ok (.iconst 1, 1) := by decide +kernel
theorem dX12_goes_91 : decode cX12_goes 91 = .ok (.iastore, 1) := by decide +kernel
theorem dX12_goes_92 : decode cX12_goes 92 = .ok (.iload_n 2, 1) := by decide +kernel
theorem dX12_goes_93 : decode cX12_goes 93 = .ok (.iload 4, 2) := by decide +kernel
theorem dX12_goes_95 : decode cX12_goes 95 = .ok (.ifCond .eq 7, 3) := by decide +kernel
theorem dX12_goes_98 : decode cX12_goes 98 = .ok (.iconst 1, 1) := by decide +kernel
theorem dX12_goes_99 : decode cX12_goes 99 = .ok (.goto 4, 3) := by decide +kernel
theorem dX12_goes_102 : decode cX12_goes 102 = .ok (.iconst 0, 1) := by decide +kernel
theorem dX12_goes_103 : decode cX12_goes 103 = .ok (.iadd, 1) := by decide +kernel
theorem dX12_goes_104 : decode cX12_goes 104 = .ok (.istore_n 2, 1) := by decide +kernel
theorem dX12_goes_105 : decode cX12_goes 105 = .ok (.iinc 3 1, 3) := by decide +kernel
theorem dX12_goes_108 : decode cX12_goes 108 = .ok (.goto (-96), 3) := by decide +kernel
theorem dX12_goes_111 : decode cX12_goes 111 = .ok (.aload_n 0, 1) := by decide +kernel
theorem dX12_goes_112 : decode cX12_goes 112 = .ok (.aload_n 1, 1) := by decide +kernel
theorem dX12_goes_113 : decode cX12_goes 113 = .ok (.invokevirtual 175, 3) := by decide +kernel
theorem dX12_goes_116 : decode cX12_goes 116 = .ok (.aload_n 1, 1) := by decide +kernel
theorem dX12_goes_117 : decode cX12_goes 117 = .ok (.iconst 1, 1) := by decide +kernel
theorem dX12_goes_118 : decode cX12_goes 118 = .ok (.dup2, 1) := by decide +kernel
theorem dX12_goes_119 : decode cX12_goes 119 = .ok (.iaload, 1) := by decide +kernel
theorem dX12_goes_120 : decode cX12_goes 120 = .ok (.iconst 1, 1) := by decide +kernel
theorem dX12_goes_121 : decode cX12_goes 121 = .ok (.iadd, 1) := by decide +kernel
theorem dX12_goes_122 : decode cX12_goes 122 = .ok (.iastore, 1) := by decide +kernel
theorem dX12_goes_123 : decode cX12_goes 123 = .ok (.iload_n 2, 1) := by decide +kernel
theorem dX12_goes_124 : decode cX12_goes 124 = .ok (.ireturn, 1) := by decide +kernel
theorem dX12_aheadOf_0 : decode cX12_aheadOf 0 = .ok (.iconst 0, 1) := by decide +kernel
theorem dX12_aheadOf_1 : decode cX12_aheadOf 1 = .ok (.istore_n 2, 1) := by decide +kernel
theorem dX12_aheadOf_2 : decode cX12_aheadOf 2 = .ok (.iconst 0, 1) := by decide +kernel
theorem dX12_aheadOf_3 : decode cX12_aheadOf 3 = .ok (.istore_n 3, 1) := by decide +kernel
theorem dX12_aheadOf_4 : decode cX12_aheadOf 4 = .ok (.iload_n 3, 1) := by decide +kernel
theorem dX12_aheadOf_5 : decode cX12_aheadOf 5 = .ok (.aload_n 0, 1) := by decide +kernel
theorem dX12_aheadOf_6 : decode cX12_aheadOf 6 = .ok (.iconst 0, 1) := by decide +kernel
theorem dX12_aheadOf_7 : decode cX12_aheadOf 7 = .ok (.iaload, 1) := by decide +kernel
theorem dX12_aheadOf_8 : decode cX12_aheadOf 8 = .ok (.if_icmp .ge 56, 3) := by decide +kernel
theorem dX12_aheadOf_11 : decode cX12_aheadOf 11 = .ok (.iload_n 2, 1) := by decide +kernel
theorem dX12_aheadOf_12 : decode cX12_aheadOf 12 = .ok (.aload_n 0, 1) := by decide +kernel
theorem dX12_aheadOf_13 : decode cX12_aheadOf 13 = .ok (.bipush 20, 2) := by decide +kernel
theorem dX12_aheadOf_15 : decode cX12_aheadOf 15 = .ok (.iload_n 3, 1) := by decide +kernel
theorem dX12_aheadOf_16 : decode cX12_aheadOf 16 = .ok (.iadd, 1) := by decide +kernel
theorem dX12_aheadOf_17 : decode cX12_aheadOf 17 = .ok (.iaload, 1) := by decide +kernel
theorem dX12_aheadOf_18 : decode cX12_aheadOf 18 = .ok (.ifCond .ne 37, 3) := by decide +kernel
theorem dX12_aheadOf_21 : decode cX12_aheadOf 21 = .ok (.aload_n 0, 1) := by decide +kernel
theorem dX12_aheadOf_22 : decode cX12_aheadOf 22 = .ok (.bipush 11, 2) := by decide +kernel
theorem dX12_aheadOf_24 : decode cX12_aheadOf 24 = .ok (.iload_n 3, 1) := by decide +kernel
theorem dX12_aheadOf_25 : decode cX12_aheadOf 25 = .ok (.iadd, 1) := by decide +kernel
theorem dX12_aheadOf_26 : decode cX12_aheadOf 26 = .ok (.iaload, 1) := by decide +kernel
theorem dX12_aheadOf_27 : decode cX12_aheadOf 27 = .ok (.aload_n 0, 1) := by decide +kernel
theorem dX12_aheadOf_28 : decode cX12_aheadOf 28 = .ok (.bipush 11, 2) := by decide +kernel
theorem dX12_aheadOf_30 : decode cX12_aheadOf 30 = .ok (.iload_n 1, 1) := by decide +kernel
theorem dX12_aheadOf_31 : decode cX12_aheadOf 31 = .ok (.iadd, 1) := by decide +kernel
theorem dX12_aheadOf_32 : decode cX12_aheadOf 32 = .ok (.iaload, 1) := by decide +kernel
theorem dX12_aheadOf_33 : decode cX12_aheadOf 33 = .ok (.if_icmp .ne 22, 3) := by decide +kernel
theorem dX12_aheadOf_36 : decode cX12_aheadOf 36 = .ok (.aload_n 0, 1) := by decide +kernel
theorem dX12_aheadOf_37 : decode cX12_aheadOf 37 = .ok (.bipush 38, 2) := by decide +kernel
theorem dX12_aheadOf_39 : decode cX12_aheadOf 39 = .ok (.iload_n 3, 1) := by decide +kernel
theorem dX12_aheadOf_40 : decode cX12_aheadOf 40 = .ok (.iadd, 1) := by decide +kernel
theorem dX12_aheadOf_41 : decode cX12_aheadOf 41 = .ok (.iaload, 1) := by decide +kernel
theorem dX12_aheadOf_42 : decode cX12_aheadOf 42 = .ok (.aload_n 0, 1) := by decide +kernel
theorem dX12_aheadOf_43 : decode cX12_aheadOf 43 = .ok (.bipush 38, 2) := by decide +kernel
theorem dX12_aheadOf_45 : decode cX12_aheadOf 45 = .ok (.iload_n 1, 1) := by decide +kernel
theorem dX12_aheadOf_46 : decode cX12_aheadOf 46 = .ok (.iadd, 1) := by decide +kernel
theorem dX12_aheadOf_47 : decode cX12_aheadOf 47 = .ok (.iaload, 1) := by decide +kernel
theorem dX12_aheadOf_48 : decode cX12_aheadOf 48 = .ok (.if_icmp .ge 7, 3) := by decide +kernel
theorem dX12_aheadOf_51 : decode cX12_aheadOf 51 = .ok (.iconst 1, 1) := by decide +kernel
theorem dX12_aheadOf_52 : decode cX12_aheadOf 52 = .ok (.goto 4, 3) := by decide +kernel
theorem dX12_aheadOf_55 : decode cX12_aheadOf 55 = .ok (.iconst 0, 1) := by decide +kernel
theorem dX12_aheadOf_56 : decode cX12_aheadOf 56 = .ok (.iadd, 1) := by decide +kernel
theorem dX12_aheadOf_57 : decode cX12_aheadOf 57 = .ok (.istore_n 2, 1) := by decide +kernel
theorem dX12_aheadOf_58 : decode cX12_aheadOf 58 = .ok (.iinc 3 1, 3) := by decide +kernel
theorem dX12_aheadOf_61 : decode cX12_aheadOf 61 = .ok (.goto (-57), 3) := by decide +kernel
theorem dX12_aheadOf_64 : decode cX12_aheadOf 64 = .ok (.iload_n 2, 1) := by decide +kernel
theorem dX12_aheadOf_65 : decode cX12_aheadOf 65 = .ok (.ireturn, 1) := by decide +kernel
theorem dX12_layAside_0 : decode cX12_layAside 0 = .ok (.aload_n 0, 1) := by decide +kernel
theorem dX12_layAside_1 : decode cX12_layAside 1 = .ok (.getfield 26, 3) := by decide +kernel
theorem dX12_layAside_4 : decode cX12_layAside 4 = .ok (.iconst 0, 1) := by decide +kernel
theorem dX12_layAside_5 : decode cX12_layAside 5 = .ok (.aload_n 0, 1) := by decide +kernel
theorem dX12_layAside_6 : decode cX12_layAside 6 = .ok (.getfield 29, 3) := by decide +kernel
theorem dX12_layAside_9 : decode cX12_layAside 9 = .ok (.iconst 0, 1) := by decide +kernel
theorem dX12_layAside_10 : decode cX12_layAside 10 = .ok (.bipush 47, 2) := by decide +kernel
theorem dX12_layAside_12 : decode cX12_layAside 12 = .ok (.invokestatic 128, 3) := by decide +kernel
theorem dX12_layAside_15 : decode cX12_layAside 15 = .ok (.return_, 1) := by decide +kernel
theorem dX12_whenAside_0 : decode cX12_whenAside 0 = .ok (.iconst 0, 1) := by decide +kernel
theorem dX12_whenAside_1 : decode cX12_whenAside 1 = .ok (.istore_n 2, 1) := by decide +kernel
theorem dX12_whenAside_2 : decode cX12_whenAside 2 = .ok (.iload_n 2, 1) := by decide +kernel
theorem dX12_whenAside_3 : decode cX12_whenAside 3 = .ok (.bipush 61, 2) := by decide +kernel
theorem dX12_whenAside_5 : decode cX12_whenAside 5 = .ok (.if_icmp .ge 33, 3) := by decide +kernel
theorem dX12_whenAside_8 : decode cX12_whenAside 8 = .ok (.aload_n 0, 1) := by decide +kernel
theorem dX12_whenAside_9 : decode cX12_whenAside 9 = .ok (.getfield 29, 3) := by decide +kernel
theorem dX12_whenAside_12 : decode cX12_whenAside 12 = .ok (.bipush 20, 2) := by decide +kernel
theorem dX12_whenAside_14 : decode cX12_whenAside 14 = .ok (.iload_n 1, 1) := by decide +kernel
theorem dX12_whenAside_15 : decode cX12_whenAside 15 = .ok (.iadd, 1) := by decide +kernel
theorem dX12_whenAside_16 : decode cX12_whenAside 16 = .ok (.iaload, 1) := by decide +kernel
theorem dX12_whenAside_17 : decode cX12_whenAside 17 = .ok (.iconst 2, 1) := by decide +kernel
theorem dX12_whenAside_18 : decode cX12_whenAside 18 = .ok (.if_icmp .ne 5, 3) := by decide +kernel
theorem dX12_whenAside_21 : decode cX12_whenAside 21 = .ok (.iload_n 2, 1) := by decide +kernel
theorem dX12_whenAside_22 : decode cX12_whenAside 22 = .ok (.ireturn, 1) := by decide +kernel
theorem dX12_whenAside_23 : decode cX12_whenAside 23 = .ok (.aload_n 0, 1) := by decide +kernel
theorem dX12_whenAside_24 : decode cX12_whenAside 24 = .ok (.aload_n 0, 1) := by decide +kernel
theorem dX12_whenAside_25 : decode cX12_whenAside 25 = .ok (.getfield 29, 3) := by decide +kernel
theorem dX12_whenAside_28 : decode cX12_whenAside 28 = .ok (.invokevirtual 179, 3) := by decide +kernel
theorem dX12_whenAside_31 : decode cX12_whenAside 31 = .ok (.istore_n 3, 1) := by decide +kernel
theorem dX12_whenAside_32 : decode cX12_whenAside 32 = .ok (.iinc 2 1, 3) := by decide +kernel
theorem dX12_whenAside_35 : decode cX12_whenAside 35 = .ok (.goto (-33), 3) := by decide +kernel
theorem dX12_whenAside_38 : decode cX12_whenAside 38 = .ok (.bipush 61, 2) := by decide +kernel
theorem dX12_whenAside_40 : decode cX12_whenAside 40 = .ok (.ireturn, 1) := by decide +kernel
theorem dX12_when_0 : decode cX12_when 0 = .ok (.aload_n 0, 1) := by decide +kernel
theorem dX12_when_1 : decode cX12_when 1 = .ok (.invokevirtual 182, 3) := by decide +kernel
theorem dX12_when_4 : decode cX12_when 4 = .ok (.aload_n 0, 1) := by decide +kernel
theorem dX12_when_5 : decode cX12_when 5 = .ok (.iload_n 1, 1) := by decide +kernel
theorem dX12_when_6 : decode cX12_when 6 = .ok (.invokevirtual 185, 3) := by decide +kernel
theorem dX12_when_9 : decode cX12_when 9 = .ok (.istore_n 2, 1) := by decide +kernel
theorem dX12_when_10 : decode cX12_when 10 = .ok (.iload_n 2, 1) := by decide +kernel
theorem dX12_when_11 : decode cX12_when 11 = .ok (.bipush 61, 2) := by decide +kernel
theorem dX12_when_13 : decode cX12_when 13 = .ok (.if_icmp .ne 8, 3) := by decide +kernel
theorem dX12_when_16 : decode cX12_when 16 = .ok (.bipush (-9), 2) := by decide +kernel
theorem dX12_when_18 : decode cX12_when 18 = .ok (.goto 4, 3) := by decide +kernel
theorem dX12_when_21 : decode cX12_when 21 = .ok (.iload_n 2, 1) := by decide +kernel
theorem dX12_when_22 : decode cX12_when 22 = .ok (.ireturn, 1) := by decide +kernel
theorem dX12_sticksFirst_0 : decode cX12_sticksFirst 0 = .ok (.aload_n 0, 1) := by decide +kernel
theorem dX12_sticksFirst_1 : decode cX12_sticksFirst 1 = .ok (.invokevirtual 182, 3) := by decide +kernel
theorem dX12_sticksFirst_4 : decode cX12_sticksFirst 4 = .ok (.iconst 0, 1) := by decide +kernel
theorem dX12_sticksFirst_5 : decode cX12_sticksFirst 5 = .ok (.istore_n 1, 1) := by decide +kernel
theorem dX12_sticksFirst_6 : decode cX12_sticksFirst 6 = .ok (.iload_n 1, 1) := by decide +kernel
theorem dX12_sticksFirst_7 : decode cX12_sticksFirst 7 = .ok (.bipush 61, 2) := by decide +kernel
theorem dX12_sticksFirst_9 : decode cX12_sticksFirst 9 = .ok (.if_icmp .ge 31, 3) := by decide +kernel
theorem dX12_sticksFirst_12 : decode cX12_sticksFirst 12 = .ok (.aload_n 0, 1) := by decide +kernel
theorem dX12_sticksFirst_13 : decode cX12_sticksFirst 13 = .ok (.aload_n 0, 1) := by decide +kernel
theorem dX12_sticksFirst_14 : decode cX12_sticksFirst 14 = .ok (.getfield 29, 3) := by decide +kernel
theorem dX12_sticksFirst_17 : decode cX12_sticksFirst 17 = .ok (.invokevirtual 171, 3) := by decide +kernel
theorem dX12_sticksFirst_20 : decode cX12_sticksFirst 20 = .ok (.ifCond .eq 5, 3) := by decide +kernel
theorem dX12_sticksFirst_23 : decode cX12_sticksFirst 23 = .ok (.iload_n 1, 1) := by decide +kernel
theorem dX12_sticksFirst_24 : decode cX12_sticksFirst 24 = .ok (.ireturn, 1) := by decide +kernel
theorem dX12_sticksFirst_25 : decode cX12_sticksFirst 25 = .ok (.aload_n 0, 1) := by decide +kernel
theorem dX12_sticksFirst_26 : decode cX12_sticksFirst 26 = .ok (.aload_n 0, 1) := by decide +kernel
theorem dX12_sticksFirst_27 : decode cX12_sticksFirst 27 = .ok (.getfield 29, 3) := by decide +kernel
theorem dX12_sticksFirst_30 : decode cX12_sticksFirst 30 = .ok (.invokevirtual 179, 3) := by decide +kernel
theorem dX12_sticksFirst_33 : decode cX12_sticksFirst 33 = .ok (.istore_n 2, 1) := by decide +kernel
theorem dX12_sticksFirst_34 : decode cX12_sticksFirst 34 = .ok (.iinc 1 1, 3) := by decide +kernel
theorem dX12_sticksFirst_37 : decode cX12_sticksFirst 37 = .ok (.goto (-31), 3) := by decide +kernel
theorem dX12_sticksFirst_40 : decode cX12_sticksFirst 40 = .ok (.bipush (-9), 2) := by decide +kernel
theorem dX12_sticksFirst_42 : decode cX12_sticksFirst 42 = .ok (.ireturn, 1) := by decide +kernel
theorem dX12_allOut_0 : decode cX12_allOut 0 = .ok (.aload_n 0, 1) := by decide +kernel
theorem dX12_allOut_1 : decode cX12_allOut 1 = .ok (.invokevirtual 182, 3) := by decide +kernel
theorem dX12_allOut_4 : decode cX12_allOut 4 = .ok (.iconst 0, 1) := by decide +kernel
theorem dX12_allOut_5 : decode cX12_allOut 5 = .ok (.istore_n 1, 1) := by decide +kernel
theorem dX12_allOut_6 : decode cX12_allOut 6 = .ok (.iload_n 1, 1) := by decide +kernel
theorem dX12_allOut_7 : decode cX12_allOut 7 = .ok (.bipush 61, 2) := by decide +kernel
theorem dX12_allOut_9 : decode cX12_allOut 9 = .ok (.if_icmp .ge 40, 3) := by decide +kernel
theorem dX12_allOut_12 : decode cX12_allOut 12 = .ok (.aload_n 0, 1) := by decide +kernel
theorem dX12_allOut_13 : decode cX12_allOut 13 = .ok (.getfield 29, 3) := by decide +kernel
theorem dX12_allOut_16 : decode cX12_allOut 16 = .ok (.iconst 0, 1) := by decide +kernel
theorem dX12_allOut_17 : decode cX12_allOut 17 = .ok (.invokestatic 158, 3) := by decide +kernel
theorem dX12_allOut_20 : decode cX12_allOut 20 = .ok (.aload_n 0, 1) := by decide +kernel
theorem dX12_allOut_21 : decode cX12_allOut 21 = .ok (.getfield 29, 3) := by decide +kernel
theorem dX12_allOut_24 : decode cX12_allOut 24 = .ok (.iconst 1, 1) := by decide +kernel
theorem dX12_allOut_25 : decode cX12_allOut 25 = .ok (.invokestatic 158, 3) := by decide +kernel
theorem dX12_allOut_28 : decode cX12_allOut 28 = .ok (.ior, 1) := by decide +kernel
theorem dX12_allOut_29 : decode cX12_allOut 29 = .ok (.ifCond .ne 5, 3) := by decide +kernel
theorem dX12_allOut_32 : decode cX12_allOut 32 = .ok (.iload_n 1, 1) := by decide +kernel
theorem dX12_allOut_33 : decode cX12_allOut 33 = .ok (.ireturn, 1) := by decide +kernel
theorem dX12_allOut_34 : decode cX12_allOut 34 = .ok (.aload_n 0, 1) := by decide +kernel
theorem dX12_allOut_35 : decode cX12_allOut 35 = .ok (.aload_n 0, 1) := by decide +kernel
theorem dX12_allOut_36 : decode cX12_allOut 36 = .ok (.getfield 29, 3) := by decide +kernel
theorem dX12_allOut_39 : decode cX12_allOut 39 = .ok (.invokevirtual 179, 3) := by decide +kernel
theorem dX12_allOut_42 : decode cX12_allOut 42 = .ok (.istore_n 2, 1) := by decide +kernel
theorem dX12_allOut_43 : decode cX12_allOut 43 = .ok (.iinc 1 1, 3) := by decide +kernel
theorem dX12_allOut_46 : decode cX12_allOut 46 = .ok (.goto (-40), 3) := by decide +kernel
theorem dX12_allOut_49 : decode cX12_allOut 49 = .ok (.bipush (-9), 2) := by decide +kernel
theorem dX12_allOut_51 : decode cX12_allOut 51 = .ok (.ireturn, 1) := by decide +kernel
theorem dX12_sort_0 : decode cX12_sort 0 = .ok (.iload_n 1, 1) := by decide +kernel
theorem dX12_sort_1 : decode cX12_sort 1 = .ok (.i2l, 1) := by decide +kernel
theorem dX12_sort_2 : decode cX12_sort 2 = .ok (.lconst 0, 1) := by decide +kernel
theorem dX12_sort_3 : decode cX12_sort 3 = .ok (.aload_n 0, 1) := by decide +kernel
theorem dX12_sort_4 : decode cX12_sort 4 = .ok (.getfield 125, 3) := by decide +kernel
theorem dX12_sort_7 : decode cX12_sort 7 = .ok (.iconst 1, 1) := by decide +kernel
theorem dX12_sort_8 : decode cX12_sort 8 = .ok (.isub, 1) := by decide +kernel
theorem dX12_sort_9 : decode cX12_sort 9 = .ok (.i2l, 1) := by decide +kernel
theorem dX12_sort_10 : decode cX12_sort 10 = .ok (.invokestatic 56, 3) := by decide +kernel
theorem dX12_sort_13 : decode cX12_sort 13 = .ok (.ifCond .ne 5, 3) := by decide +kernel
theorem dX12_sort_16 : decode cX12_sort 16 = .ok (.iconst (-1), 1) := by decide +kernel
theorem dX12_sort_17 : decode cX12_sort 17 = .ok (.ireturn, 1) := by decide +kernel
theorem dX12_sort_18 : decode cX12_sort 18 = .ok (.iload_n 2, 1) := by decide +kernel
theorem dX12_sort_19 : decode cX12_sort 19 = .ok (.tableswitch 84 0 2 #[25, 32, 39], 25) := by decide +kernel
theorem dX12_sort_44 : decode cX12_sort 44 = .ok (.aload_n 0, 1) := by decide +kernel
theorem dX12_sort_45 : decode cX12_sort 45 = .ok (.getfield 19, 3) := by decide +kernel
theorem dX12_sort_48 : decode cX12_sort 48 = .ok (.iload_n 1, 1) := by decide +kernel
theorem dX12_sort_49 : decode cX12_sort 49 = .ok (.iaload, 1) := by decide +kernel
theorem dX12_sort_50 : decode cX12_sort 50 = .ok (.ireturn, 1) := by decide +kernel
theorem dX12_sort_51 : decode cX12_sort 51 = .ok (.aload_n 0, 1) := by decide +kernel
theorem dX12_sort_52 : decode cX12_sort 52 = .ok (.getfield 23, 3) := by decide +kernel
theorem dX12_sort_55 : decode cX12_sort 55 = .ok (.iload_n 1, 1) := by decide +kernel
theorem dX12_sort_56 : decode cX12_sort 56 = .ok (.iaload, 1) := by decide +kernel
theorem dX12_sort_57 : decode cX12_sort 57 = .ok (.ireturn, 1) := by decide +kernel
theorem dX12_sort_58 : decode cX12_sort 58 = .ok (.iconst 0, 1) := by decide +kernel
theorem dX12_sort_59 : decode cX12_sort 59 = .ok (.istore_n 3, 1) := by decide +kernel
theorem dX12_sort_60 : decode cX12_sort 60 = .ok (.iconst 0, 1) := by decide +kernel
theorem dX12_sort_61 : decode cX12_sort 61 = .ok (.istore 4, 2) := by decide +kernel
theorem dX12_sort_63 : decode cX12_sort 63 = .ok (.iload 4, 2) := by decide +kernel
theorem dX12_sort_65 : decode cX12_sort 65 = .ok (.aload_n 0, 1) := by decide +kernel
theorem dX12_sort_66 : decode cX12_sort 66 = .ok (.getfield 26, 3) := by decide +kernel
theorem dX12_sort_69 : decode cX12_sort 69 = .ok (.iconst 0, 1) := by decide +kernel
theorem dX12_sort_70 : decode cX12_sort 70 = .ok (.iaload, 1) := by decide +kernel
theorem dX12_sort_71 : decode cX12_sort 71 = .ok (.if_icmp .ge 30, 3) := by decide +kernel
theorem dX12_sort_74 : decode cX12_sort 74 = .ok (.iload_n 3, 1) := by decide +kernel
theorem dX12_sort_75 : decode cX12_sort 75 = .ok (.aload_n 0, 1) := by decide +kernel
theorem dX12_sort_76 : decode cX12_sort 76 = .ok (.getfield 26, 3) := by decide +kernel
theorem dX12_sort_79 : decode cX12_sort 79 = .ok (.iconst 2, 1) := by decide +kernel
theorem dX12_sort_80 : decode cX12_sort 80 = .ok (.iload 4, 2) := by decide +kernel
theorem dX12_sort_82 : decode cX12_sort 82 = .ok (.iadd, 1) := by decide +kernel
theorem dX12_sort_83 : decode cX12_sort 83 = .ok (.iaload, 1) := by decide +kernel
theorem dX12_sort_84 : decode cX12_sort 84 = .ok (.iload_n 1, 1) := by decide +kernel
theorem dX12_sort_85 : decode cX12_sort 85 = .ok (.if_icmp .ne 7, 3) := by decide +kernel
theorem dX12_sort_88 : decode cX12_sort 88 = .ok (.iconst 1, 1) := by decide +kernel
theorem dX12_sort_89 : decode cX12_sort 89 = .ok (.goto 4, 3) := by decide +kernel
theorem dX12_sort_92 : decode cX12_sort 92 = .ok (.iconst 0, 1) := by decide +kernel
theorem dX12_sort_93 : decode cX12_sort 93 = .ok (.iadd, 1) := by decide +kernel
theorem dX12_sort_94 : decode cX12_sort 94 = .ok (.istore_n 3, 1) := by decide +kernel
theorem dX12_sort_95 : decode cX12_sort 95 = .ok (.iinc 4 1, 3) := by decide +kernel
