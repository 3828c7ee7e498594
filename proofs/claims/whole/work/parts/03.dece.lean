theorem dX12_sort_98 : decode cX12_sort 98 = .ok (.goto (-35), 3) := by decide +kernel
theorem dX12_sort_101 : decode cX12_sort 101 = .ok (.iload_n 3, 1) := by decide +kernel
theorem dX12_sort_102 : decode cX12_sort 102 = .ok (.ireturn, 1) := by decide +kernel
theorem dX12_sort_103 : decode cX12_sort 103 = .ok (.iconst (-1), 1) := by decide +kernel
theorem dX12_sort_104 : decode cX12_sort 104 = .ok (.ireturn, 1) := by decide +kernel
theorem dX12_goer_0 : decode cX12_goer 0 = .ok (.aload_n 0, 1) := by decide +kernel
theorem dX12_goer_1 : decode cX12_goer 1 = .ok (.iload_n 1, 1) := by decide +kernel
theorem dX12_goer_2 : decode cX12_goer 2 = .ok (.invokevirtual 188, 3) := by decide +kernel
theorem dX12_goer_5 : decode cX12_goer 5 = .ok (.ifCond .ne 5, 3) := by decide +kernel
theorem dX12_goer_8 : decode cX12_goer 8 = .ok (.iconst (-1), 1) := by decide +kernel
theorem dX12_goer_9 : decode cX12_goer 9 = .ok (.ireturn, 1) := by decide +kernel
theorem dX12_goer_10 : decode cX12_goer 10 = .ok (.iload_n 2, 1) := by decide +kernel
theorem dX12_goer_11 : decode cX12_goer 11 = .ok (.tableswitch 126 0 5 #[37, 46, 56, 66, 94, 120], 37) := by decide +kernel
theorem dX12_goer_48 : decode cX12_goer 48 = .ok (.aload_n 0, 1) := by decide +kernel
theorem dX12_goer_49 : decode cX12_goer 49 = .ok (.getfield 26, 3) := by decide +kernel
theorem dX12_goer_52 : decode cX12_goer 52 = .ok (.iconst 2, 1) := by decide +kernel
theorem dX12_goer_53 : decode cX12_goer 53 = .ok (.iload_n 1, 1) := by decide +kernel
theorem dX12_goer_54 : decode cX12_goer 54 = .ok (.iadd, 1) := by decide +kernel
theorem dX12_goer_55 : decode cX12_goer 55 = .ok (.iaload, 1) := by decide +kernel
theorem dX12_goer_56 : decode cX12_goer 56 = .ok (.ireturn, 1) := by decide +kernel
theorem dX12_goer_57 : decode cX12_goer 57 = .ok (.aload_n 0, 1) := by decide +kernel
theorem dX12_goer_58 : decode cX12_goer 58 = .ok (.getfield 26, 3) := by decide +kernel
theorem dX12_goer_61 : decode cX12_goer 61 = .ok (.bipush 11, 2) := by decide +kernel
theorem dX12_goer_63 : decode cX12_goer 63 = .ok (.iload_n 1, 1) := by decide +kernel
theorem dX12_goer_64 : decode cX12_goer 64 = .ok (.iadd, 1) := by decide +kernel
theorem dX12_goer_65 : decode cX12_goer 65 = .ok (.iaload, 1) := by decide +kernel
theorem dX12_goer_66 : decode cX12_goer 66 = .ok (.ireturn, 1) := by decide +kernel
theorem dX12_goer_67 : decode cX12_goer 67 = .ok (.aload_n 0, 1) := by decide +kernel
theorem dX12_goer_68 : decode cX12_goer 68 = .ok (.getfield 26, 3) := by decide +kernel
theorem dX12_goer_71 : decode cX12_goer 71 = .ok (.bipush 20, 2) := by decide +kernel
theorem dX12_goer_73 : decode cX12_goer 73 = .ok (.iload_n 1, 1) := by decide +kernel
theorem dX12_goer_74 : decode cX12_goer 74 = .ok (.iadd, 1) := by decide +kernel
theorem dX12_goer_75 : decode cX12_goer 75 = .ok (.iaload, 1) := by decide +kernel
theorem dX12_goer_76 : decode cX12_goer 76 = .ok (.ireturn, 1) := by decide +kernel
theorem dX12_goer_77 : decode cX12_goer 77 = .ok (.aload_n 0, 1) := by decide +kernel
theorem dX12_goer_78 : decode cX12_goer 78 = .ok (.getfield 26, 3) := by decide +kernel
theorem dX12_goer_81 : decode cX12_goer 81 = .ok (.bipush 20, 2) := by decide +kernel
theorem dX12_goer_83 : decode cX12_goer 83 = .ok (.iload_n 1, 1) := by decide +kernel
theorem dX12_goer_84 : decode cX12_goer 84 = .ok (.iadd, 1) := by decide +kernel
theorem dX12_goer_85 : decode cX12_goer 85 = .ok (.iaload, 1) := by decide +kernel
theorem dX12_goer_86 : decode cX12_goer 86 = .ok (.iconst 1, 1) := by decide +kernel
theorem dX12_goer_87 : decode cX12_goer 87 = .ok (.if_icmp .ne 15, 3) := by decide +kernel
theorem dX12_goer_90 : decode cX12_goer 90 = .ok (.aload_n 0, 1) := by decide +kernel
theorem dX12_goer_91 : decode cX12_goer 91 = .ok (.getfield 26, 3) := by decide +kernel
theorem dX12_goer_94 : decode cX12_goer 94 = .ok (.bipush 29, 2) := by decide +kernel
theorem dX12_goer_96 : decode cX12_goer 96 = .ok (.iload_n 1, 1) := by decide +kernel
theorem dX12_goer_97 : decode cX12_goer 97 = .ok (.iadd, 1) := by decide +kernel
theorem dX12_goer_98 : decode cX12_goer 98 = .ok (.iaload, 1) := by decide +kernel
theorem dX12_goer_99 : decode cX12_goer 99 = .ok (.goto 5, 3) := by decide +kernel
theorem dX12_goer_102 : decode cX12_goer 102 = .ok (.bipush (-9), 2) := by decide +kernel
theorem dX12_goer_104 : decode cX12_goer 104 = .ok (.ireturn, 1) := by decide +kernel
theorem dX12_goer_105 : decode cX12_goer 105 = .ok (.aload_n 0, 1) := by decide +kernel
theorem dX12_goer_106 : decode cX12_goer 106 = .ok (.getfield 26, 3) := by decide +kernel
theorem dX12_goer_109 : decode cX12_goer 109 = .ok (.bipush 20, 2) := by decide +kernel
theorem dX12_goer_111 : decode cX12_goer 111 = .ok (.iload_n 1, 1) := by decide +kernel
theorem dX12_goer_112 : decode cX12_goer 112 = .ok (.iadd, 1) := by decide +kernel
theorem dX12_goer_113 : decode cX12_goer 113 = .ok (.iaload, 1) := by decide +kernel
theorem dX12_goer_114 : decode cX12_goer 114 = .ok (.ifCond .ne 14, 3) := by decide +kernel
theorem dX12_goer_117 : decode cX12_goer 117 = .ok (.aload_n 0, 1) := by decide +kernel
theorem dX12_goer_118 : decode cX12_goer 118 = .ok (.getfield 26, 3) := by decide +kernel
theorem dX12_goer_121 : decode cX12_goer 121 = .ok (.iload_n 1, 1) := by decide +kernel
theorem dX12_goer_122 : decode cX12_goer 122 = .ok (.invokestatic 191, 3) := by decide +kernel
theorem dX12_goer_125 : decode cX12_goer 125 = .ok (.goto 5, 3) := by decide +kernel
theorem dX12_goer_128 : decode cX12_goer 128 = .ok (.bipush (-9), 2) := by decide +kernel
theorem dX12_goer_130 : decode cX12_goer 130 = .ok (.ireturn, 1) := by decide +kernel
theorem dX12_goer_131 : decode cX12_goer 131 = .ok (.aload_n 0, 1) := by decide +kernel
theorem dX12_goer_132 : decode cX12_goer 132 = .ok (.iload_n 1, 1) := by decide +kernel
theorem dX12_goer_133 : decode cX12_goer 133 = .ok (.invokevirtual 194, 3) := by decide +kernel
theorem dX12_goer_136 : decode cX12_goer 136 = .ok (.ireturn, 1) := by decide +kernel
theorem dX12_goer_137 : decode cX12_goer 137 = .ok (.iconst (-1), 1) := by decide +kernel
theorem dX12_goer_138 : decode cX12_goer 138 = .ok (.ireturn, 1) := by decide +kernel
theorem dX12_room_0 : decode cX12_room 0 = .ok (.iload_n 1, 1) := by decide +kernel
theorem dX12_room_1 : decode cX12_room 1 = .ok (.i2l, 1) := by decide +kernel
theorem dX12_room_2 : decode cX12_room 2 = .ok (.lconst 0, 1) := by decide +kernel
theorem dX12_room_3 : decode cX12_room 3 = .ok (.aload_n 0, 1) := by decide +kernel
theorem dX12_room_4 : decode cX12_room 4 = .ok (.getfield 7, 3) := by decide +kernel
theorem dX12_room_7 : decode cX12_room 7 = .ok (.iconst 1, 1) := by decide +kernel
theorem dX12_room_8 : decode cX12_room 8 = .ok (.isub, 1) := by decide +kernel
theorem dX12_room_9 : decode cX12_room 9 = .ok (.i2l, 1) := by decide +kernel
theorem dX12_room_10 : decode cX12_room 10 = .ok (.invokestatic 56, 3) := by decide +kernel
theorem dX12_room_13 : decode cX12_room 13 = .ok (.ifCond .eq 10, 3) := by decide +kernel
theorem dX12_room_16 : decode cX12_room 16 = .ok (.iload_n 2, 1) := by decide +kernel
theorem dX12_room_17 : decode cX12_room 17 = .ok (.invokestatic 197, 3) := by decide +kernel
theorem dX12_room_20 : decode cX12_room 20 = .ok (.ifCond .ne 5, 3) := by decide +kernel
theorem dX12_room_23 : decode cX12_room 23 = .ok (.iconst (-1), 1) := by decide +kernel
theorem dX12_room_24 : decode cX12_room 24 = .ok (.ireturn, 1) := by decide +kernel
theorem dX12_room_25 : decode cX12_room 25 = .ok (.iload_n 2, 1) := by decide +kernel
theorem dX12_room_26 : decode cX12_room 26 = .ok (.ifCond .ne 14, 3) := by decide +kernel
theorem dX12_room_29 : decode cX12_room 29 = .ok (.aload_n 0, 1) := by decide +kernel
theorem dX12_room_30 : decode cX12_room 30 = .ok (.getfield 26, 3) := by decide +kernel
theorem dX12_room_33 : decode cX12_room 33 = .ok (.iload_n 1, 1) := by decide +kernel
theorem dX12_room_34 : decode cX12_room 34 = .ok (.invokestatic 138, 3) := by decide +kernel
theorem dX12_room_37 : decode cX12_room 37 = .ok (.goto 12, 3) := by decide +kernel
theorem dX12_room_40 : decode cX12_room 40 = .ok (.aload_n 0, 1) := by decide +kernel
theorem dX12_room_41 : decode cX12_room 41 = .ok (.aload_n 0, 1) := by decide +kernel
theorem dX12_room_42 : decode cX12_room 42 = .ok (.getfield 26, 3) := by decide +kernel
theorem dX12_room_45 : decode cX12_room 45 = .ok (.iload_n 1, 1) := by decide +kernel
theorem dX12_room_46 : decode cX12_room 46 = .ok (.invokevirtual 155, 3) := by decide +kernel
theorem dX12_room_49 : decode cX12_room 49 = .ok (.ireturn, 1) := by decide +kernel
theorem dX12_now_0 : decode cX12_now 0 = .ok (.iload_n 1, 1) := by decide +kernel
theorem dX12_now_1 : decode cX12_now 1 = .ok (.tableswitch 105 0 7 #[47, 54, 63, 72, 81, 90, 95, 100], 47) := by decide +kernel
theorem dX12_now_48 : decode cX12_now 48 = .ok (.aload_n 0, 1) := by decide +kernel
theorem dX12_now_49 : decode cX12_now 49 = .ok (.getfield 26, 3) := by decide +kernel
theorem dX12_now_52 : decode cX12_now 52 = .ok (.iconst 1, 1) := by decide +kernel
theorem dX12_now_53 : decode cX12_now 53 = .ok (.iaload, 1) := by decide +kernel
theorem dX12_now_54 : decode cX12_now 54 = .ok (.ireturn, 1) := by decide +kernel
theorem dX12_now_55 : decode cX12_now 55 = .ok (.aload_n 0, 1) := by decide +kernel
theorem dX12_now_56 : decode cX12_now 56 = .ok (.aload_n 0, 1) := by decide +kernel
theorem dX12_now_57 : decode cX12_now 57 = .ok (.getfield 26, 3) := by decide +kernel
theorem dX12_now_60 : decode cX12_now 60 = .ok (.invokevirtual 164, 3) := by decide +kernel
theorem dX12_now_63 : decode cX12_now 63 = .ok (.ireturn, 1) := by decide +kernel
theorem dX12_now_64 : decode cX12_now 64 = .ok (.aload_n 0, 1) := by decide +kernel
theorem dX12_now_65 : decode cX12_now 65 = .ok (.aload_n 0, 1) := by decide +kernel
theorem dX12_now_66 : decode cX12_now 66 = .ok (.getfield 26, 3) := by decide +kernel
theorem dX12_now_69 : decode cX12_now 69 = .ok (.invokevirtual 168, 3) := by decide +kernel
theorem dX12_now_72 : decode cX12_now 72 = .ok (.ireturn, 1) := by decide +kernel
theorem dX12_now_73 : decode cX12_now 73 = .ok (.aload_n 0, 1) := by decide +kernel
theorem dX12_now_74 : decode cX12_now 74 = .ok (.getfield 26, 3) := by decide +kernel
theorem dX12_now_77 : decode cX12_now 77 = .ok (.iconst 0, 1) := by decide +kernel
theorem dX12_now_78 : decode cX12_now 78 = .ok (.invokestatic 158, 3) := by decide +kernel
theorem dX12_now_81 : decode cX12_now 81 = .ok (.ireturn, 1) := by decide +kernel
theorem dX12_now_82 : decode cX12_now 82 = .ok (.aload_n 0, 1) := by decide +kernel
theorem dX12_now_83 : decode cX12_now 83 = .ok (.getfield 26, 3) := by decide +kernel
theorem dX12_now_86 : decode cX12_now 86 = .ok (.iconst 2, 1) := by decide +kernel
theorem dX12_now_87 : decode cX12_now 87 = .ok (.invokestatic 158, 3) := by decide +kernel
theorem dX12_now_90 : decode cX12_now 90 = .ok (.ireturn, 1) := by decide +kernel
theorem dX12_now_91 : decode cX12_now 91 = .ok (.aload_n 0, 1) := by decide +kernel
theorem dX12_now_92 : decode cX12_now 92 = .ok (.invokevirtual 200, 3) := by decide +kernel
theorem dX12_now_95 : decode cX12_now 95 = .ok (.ireturn, 1) := by decide +kernel
theorem dX12_now_96 : decode cX12_now 96 = .ok (.aload_n 0, 1) := by decide +kernel
theorem dX12_now_97 : decode cX12_now 97 = .ok (.invokevirtual 203, 3) := by decide +kernel
theorem dX12_now_100 : decode cX12_now 100 = .ok (.ireturn, 1) := by decide +kernel
theorem dX12_now_101 : decode cX12_now 101 = .ok (.aload_n 0, 1) := by decide +kernel
theorem dX12_now_102 : decode cX12_now 102 = .ok (.getfield 132, 3) := by decide +kernel
theorem dX12_now_105 : decode cX12_now 105 = .ok (.ireturn, 1) := by decide +kernel
theorem dX12_now_106 : decode cX12_now 106 = .ok (.iconst (-1), 1) := by decide +kernel
theorem dX12_now_107 : decode cX12_now 107 = .ok (.ireturn, 1) := by decide +kernel
theorem dX12_notes_0 : decode cX12_notes 0 = .ok (.aload_n 0, 1) := by decide +kernel
theorem dX12_notes_1 : decode cX12_notes 1 = .ok (.getfield 132, 3) := by decide +kernel
theorem dX12_notes_4 : decode cX12_notes 4 = .ok (.bipush 10, 2) := by decide +kernel
theorem dX12_notes_6 : decode cX12_notes 6 = .ok (.if_icmp .ne 43, 3) := by decide +kernel
theorem dX12_notes_9 : decode cX12_notes 9 = .ok (.iconst 0, 1) := by decide +kernel
theorem dX12_notes_10 : decode cX12_notes 10 = .ok (.istore_n 1, 1) := by decide +kernel
theorem dX12_notes_11 : decode cX12_notes 11 = .ok (.iload_n 1, 1) := by decide +kernel
theorem dX12_notes_12 : decode cX12_notes 12 = .ok (.sipush 423, 3) := by decide +kernel
theorem dX12_notes_15 : decode cX12_notes 15 = .ok (.if_icmp .ge 24, 3) := by decide +kernel
theorem dX12_notes_18 : decode cX12_notes 18 = .ok (.aload_n 0, 1) := by decide +kernel
theorem dX12_notes_19 : decode cX12_notes 19 = .ok (.getfield 32, 3) := by decide +kernel
theorem dX12_notes_22 : decode cX12_notes 22 = .ok (.iload_n 1, 1) := by decide +kernel
theorem dX12_notes_23 : decode cX12_notes 23 = .ok (.aload_n 0, 1) := by decide +kernel
theorem dX12_notes_24 : decode cX12_notes 24 = .ok (.getfield 32, 3) := by decide +kernel
theorem dX12_notes_27 : decode cX12_notes 27 = .ok (.iload_n 1, 1) := by decide +kernel
theorem dX12_notes_28 : decode cX12_notes 28 = .ok (.bipush 47, 2) := by decide +kernel
theorem dX12_notes_30 : decode cX12_notes 30 = .ok (.iadd, 1) := by decide +kernel
theorem dX12_notes_31 : decode cX12_notes 31 = .ok (.iaload, 1) := by decide +kernel
theorem dX12_notes_32 : decode cX12_notes 32 = .ok (.iastore, 1) := by decide +kernel
theorem dX12_notes_33 : decode cX12_notes 33 = .ok (.iinc 1 1, 3) := by decide +kernel
theorem dX12_notes_36 : decode cX12_notes 36 = .ok (.goto (-25), 3) := by decide +kernel
theorem dX12_notes_39 : decode cX12_notes 39 = .ok (.aload_n 0, 1) := by decide +kernel
theorem dX12_notes_40 : decode cX12_notes 40 = .ok (.dup, 1) := by decide +kernel
theorem dX12_notes_41 : decode cX12_notes 41 = .ok (.getfield 132, 3) := by decide +kernel
theorem dX12_notes_44 : decode cX12_notes 44 = .ok (.iconst 1, 1) := by decide +kernel
theorem dX12_notes_45 : decode cX12_notes 45 = .ok (.isub, 1) := by decide +kernel
theorem dX12_notes_46 : decode cX12_notes 46 = .ok (.putfield 132, 3) := by decide +kernel
theorem dX12_notes_49 : decode cX12_notes 49 = .ok (.aload_n 0, 1) := by decide +kernel
theorem dX12_notes_50 : decode cX12_notes 50 = .ok (.getfield 26, 3) := by decide +kernel
theorem dX12_notes_53 : decode cX12_notes 53 = .ok (.iconst 0, 1) := by decide +kernel
theorem dX12_notes_54 : decode cX12_notes 54 = .ok (.aload_n 0, 1) := by decide +kernel
theorem dX12_notes_55 : decode cX12_notes 55 = .ok (.getfield 32, 3) := by decide +kernel
theorem dX12_notes_58 : decode cX12_notes 58 = .ok (.bipush 47, 2) := by decide +kernel
theorem dX12_notes_60 : decode cX12_notes 60 = .ok (.aload_n 0, 1) := by decide +kernel
theorem dX12_notes_61 : decode cX12_notes 61 = .ok (.getfield 132, 3) := by decide +kernel
theorem dX12_notes_64 : decode cX12_notes 64 = .ok (.imul, 1) := by decide +kernel
theorem dX12_notes_65 : decode cX12_notes 65 = .ok (.bipush 47, 2) := by decide +kernel
theorem dX12_notes_67 : decode cX12_notes 67 = .ok (.invokestatic 128, 3) := by decide +kernel
theorem dX12_notes_70 : decode cX12_notes 70 = .ok (.aload_n 0, 1) := by decide +kernel
theorem dX12_notes_71 : decode cX12_notes 71 = .ok (.dup, 1) := by decide +kernel
theorem dX12_notes_72 : decode cX12_notes 72 = .ok (.getfield 132, 3) := by decide +kernel
theorem dX12_notes_75 : decode cX12_notes 75 = .ok (.iconst 1, 1) := by decide +kernel
theorem dX12_notes_76 : decode cX12_notes 76 = .ok (.iadd, 1) := by decide +kernel
theorem dX12_notes_77 : decode cX12_notes 77 = .ok (.putfield 132, 3) := by decide +kernel
theorem dX12_notes_80 : decode cX12_notes 80 = .ok (.return_, 1) := by decide +kernel
theorem dX12_comes_0 : decode cX12_comes 0 = .ok (.iload_n 1, 1) := by decide +kernel
theorem dX12_comes_1 : decode cX12_comes 1 = .ok (.i2l, 1) := by decide +kernel
theorem dX12_comes_2 : decode cX12_comes 2 = .ok (.lconst 0, 1) := by decide +kernel
theorem dX12_comes_3 : decode cX12_comes 3 = .ok (.aload_n 0, 1) := by decide +kernel
theorem dX12_comes_4 : decode cX12_comes 4 = .ok (.getfield 125, 3) := by decide +kernel
theorem dX12_comes_7 : decode cX12_comes 7 = .ok (.iconst 1, 1) := by decide +kernel
theorem dX12_comes_8 : decode cX12_comes 8 = .ok (.isub, 1) := by decide +kernel
theorem dX12_comes_9 : decode cX12_comes 9 = .ok (.i2l, 1) := by decide +kernel
theorem dX12_comes_10 : decode cX12_comes 10 = .ok (.invokestatic 56, 3) := by decide +kernel
theorem dX12_comes_13 : decode cX12_comes 13 = .ok (.ifCond .eq 10, 3) := by decide +kernel
theorem dX12_comes_16 : decode cX12_comes 16 = .ok (.iload_n 2, 1) := by decide +kernel
theorem dX12_comes_17 : decode cX12_comes 17 = .ok (.invokestatic 197, 3) := by decide +kernel
theorem dX12_comes_20 : decode cX12_comes 20 = .ok (.ifCond .ne 5, 3) := by decide +kernel
theorem dX12_comes_23 : decode cX12_comes 23 = .ok (.iconst (-1), 1) := by decide +kernel
theorem dX12_comes_24 : decode cX12_comes 24 = .ok (.ireturn, 1) := by decide +kernel
theorem dX12_comes_25 : decode cX12_comes 25 = .ok (.aload_n 0, 1) := by decide +kernel
theorem dX12_comes_26 : decode cX12_comes 26 = .ok (.getfield 26, 3) := by decide +kernel
theorem dX12_comes_29 : decode cX12_comes 29 = .ok (.iconst 0, 1) := by decide +kernel
theorem dX12_comes_30 : decode cX12_comes 30 = .ok (.iaload, 1) := by decide +kernel
theorem dX12_comes_31 : decode cX12_comes 31 = .ok (.bipush 9, 2) := by decide +kernel
theorem dX12_comes_33 : decode cX12_comes 33 = .ok (.if_icmp .ne 6, 3) := by decide +kernel
theorem dX12_comes_36 : decode cX12_comes 36 = .ok (.bipush (-3), 2) := by decide +kernel
theorem dX12_comes_38 : decode cX12_comes 38 = .ok (.ireturn, 1) := by decide +kernel
theorem dX12_comes_39 : decode cX12_comes 39 = .ok (.aload_n 0, 1) := by decide +kernel
theorem dX12_comes_40 : decode cX12_comes 40 = .ok (.invokevirtual 206, 3) := by decide +kernel
theorem dX12_comes_43 : decode cX12_comes 43 = .ok (.aload_n 0, 1) := by decide +kernel
theorem dX12_comes_44 : decode cX12_comes 44 = .ok (.getfield 26, 3) := by decide +kernel
theorem dX12_comes_47 : decode cX12_comes 47 = .ok (.iconst 0, 1) := by decide +kernel
theorem dX12_comes_48 : decode cX12_comes 48 = .ok (.iaload, 1) := by decide +kernel
theorem dX12_comes_49 : decode cX12_comes 49 = .ok (.istore_n 3, 1) := by decide +kernel
theorem dX12_comes_50 : decode cX12_comes 50 = .ok (.iconst 0, 1) := by decide +kernel
theorem dX12_comes_51 : decode cX12_comes 51 = .ok (.istore 4, 2) := by decide +kernel
theorem dX12_comes_53 : decode cX12_comes 53 = .ok (.iconst 0, 1) := by decide +kernel
theorem dX12_comes_54 : decode cX12_comes 54 = .ok (.istore 5, 2) := by decide +kernel
theorem dX12_comes_56 : decode cX12_comes 56 = .ok (.iload 5, 2) := by decide +kernel
theorem dX12_comes_58 : decode cX12_comes 58 = .ok (.iload_n 3, 1) := by decide +kernel
theorem dX12_comes_59 : decode cX12_comes 59 = .ok (.if_icmp .ge 41, 3) := by decide +kernel
theorem dX12_comes_62 : decode cX12_comes 62 = .ok (.aload_n 0, 1) := by decide +kernel
theorem dX12_comes_63 : decode cX12_comes 63 = .ok (.getfield 26, 3) := by decide +kernel
theorem dX12_comes_66 : decode cX12_comes 66 = .ok (.bipush 38, 2) := by decide +kernel
theorem dX12_comes_68 : decode cX12_comes 68 = .ok (.iload 5, 2) := by decide +kernel
theorem dX12_comes_70 : decode cX12_comes 70 = .ok (.iadd, 1) := by decide +kernel
theorem dX12_comes_71 : decode cX12_comes 71 = .ok (.iaload, 1) := by decide +kernel
theorem dX12_comes_72 : decode cX12_comes 72 = .ok (.iload 4, 2) := by decide +kernel
theorem dX12_comes_74 : decode cX12_comes 74 = .ok (.if_icmp .le 16, 3) := by decide +kernel
theorem dX12_comes_77 : decode cX12_comes 77 = .ok (.aload_n 0, 1) := by decide +kernel
theorem dX12_comes_78 : decode cX12_comes 78 = .ok (.getfield 26, 3) := by decide +kernel
theorem dX12_comes_81 : decode cX12_comes 81 = .ok (.bipush 38, 2) := by decide +kernel
theorem dX12_comes_83 : decode cX12_comes 83 = .ok (.iload 5, 2) := by decide +kernel
theorem dX12_comes_85 : decode cX12_comes 85 = .ok (.iadd, 1) := by decide +kernel
theorem dX12_comes_86 : decode cX12_comes 86 = .ok (.iaload, 1) := by decide +kernel
theorem dX12_comes_87 : decode cX12_comes 87 = .ok (.goto 5, 3) := by decide +kernel
theorem dX12_comes_90 : decode cX12_comes 90 = .ok (.iload 4, 2) := by decide +kernel
theorem dX12_comes_92 : decode cX12_comes 92 = .ok (.istore 4, 2) := by decide +kernel
theorem dX12_comes_94 : decode cX12_comes 94 = .ok (.iinc 5 1, 3) := by decide +kernel
theorem dX12_comes_97 : decode cX12_comes 97 = .ok (.goto (-41), 3) := by decide +kernel
theorem dX12_comes_100 : decode cX12_comes 100 = .ok (.aload_n 0, 1) := by decide +kernel
theorem dX12_comes_101 : decode cX12_comes 101 = .ok (.getfield 26, 3) := by decide +kernel
theorem dX12_comes_104 : decode cX12_comes 104 = .ok (.iconst 2, 1) := by decide +kernel
theorem dX12_comes_105 : decode cX12_comes 105 = .ok (.iload_n 3, 1) := by decide +kernel
theorem dX12_comes_106 : decode cX12_comes 106 = .ok (.iadd, 1) := by decide +kernel
theorem dX12_comes_107 : decode cX12_comes 107 = .ok (.iload_n 1, 1) := by decide +kernel
theorem dX12_comes_108 : decode cX12_comes 108 = .ok (.iastore, 1) := by decide +kernel
theorem dX12_comes_109 : decode cX12_comes 109 = .ok (.aload_n 0, 1) := by decide +kernel
theorem dX12_comes_110 : decode cX12_comes 110 = .ok (.getfield 26, 3) := by decide +kernel
theorem dX12_comes_113 : decode cX12_comes 113 = .ok (.bipush 11, 2) := by decide +kernel
theorem dX12_comes_115 : decode cX12_comes 115 = .ok (.iload_n 3, 1) := by decide +kernel
theorem dX12_comes_116 : decode cX12_comes 116 = .ok (.iadd, 1) := by decide +kernel
theorem dX12_comes_117 : decode cX12_comes 117 = .ok (.iload_n 2, 1) := by decide +kernel
theorem dX12_comes_118 : decode cX12_comes 118 = .ok (.iastore, 1) := by decide +kernel
theorem dX12_comes_119 : decode cX12_comes 119 = .ok (.aload_n 0, 1) := by decide +kernel
theorem dX12_comes_120 : decode cX12_comes 120 = .ok (.getfield 26, 3) := by decide +kernel
theorem dX12_comes_123 : decode cX12_comes 123 = .ok (.bipush 20, 2) := by decide +kernel
theorem dX12_comes_125 : decode cX12_comes 125 = .ok (.iload_n 3, 1) := by decide +kernel
theorem dX12_comes_126 : decode cX12_comes 126 = .ok (.iadd, 1) := by decide +kernel
theorem dX12_comes_127 : decode cX12_comes 127 = .ok (.iconst 0, 1) := by decide +kernel
theorem dX12_comes_128 : decode cX12_comes 128 = .ok (.iastore, 1) := by decide +kernel
theorem dX12_comes_129 : decode cX12_comes 129 = .ok (.aload_n 0, 1) := by decide +kernel
theorem dX12_comes_130 : decode cX12_comes 130 = .ok (.getfield 26, 3) := by decide +kernel
theorem dX12_comes_133 : decode cX12_comes 133 = .ok (.bipush 29, 2) := by decide +kernel
theorem dX12_comes_135 : decode cX12_comes 135 = .ok (.iload_n 3, 1) := by decide +kernel
theorem dX12_comes_136 : decode cX12_comes 136 = .ok (.iadd, 1) := by decide +kernel
theorem dX12_comes_137 : decode cX12_comes 137 = .ok (.iconst 0, 1) := by decide +kernel
theorem dX12_comes_138 : decode cX12_comes 138 = .ok (.iastore, 1) := by decide +kernel
theorem dX12_comes_139 : decode cX12_comes 139 = .ok (.aload_n 0, 1) := by decide +kernel
theorem dX12_comes_140 : decode cX12_comes 140 = .ok (.getfield 26, 3) := by decide +kernel
theorem dX12_comes_143 : decode cX12_comes 143 = .ok (.bipush 38, 2) := by decide +kernel
theorem dX12_comes_145 : decode cX12_comes 145 = .ok (.iload_n 3, 1) := by decide +kernel
theorem dX12_comes_146 : decode cX12_comes 146 = .ok (.iadd, 1) := by decide +kernel
theorem dX12_comes_147 : decode cX12_comes 147 = .ok (.iload 4, 2) := by decide +kernel
theorem dX12_comes_149 : decode cX12_comes 149 = .ok (.iconst 1, 1) := by decide +kernel
theorem dX12_comes_150 : decode cX12_comes 150 = .ok (.iadd, 1) := by decide +kernel
theorem dX12_comes_151 : decode cX12_comes 151 = .ok (.iastore, 1) := by decide +kernel
theorem dX12_comes_152 : decode cX12_comes 152 = .ok (.aload_n 0, 1) := by decide +kernel
theorem dX12_comes_153 : decode cX12_comes 153 = .ok (.getfield 26, 3) := by decide +kernel
theorem dX12_comes_156 : decode cX12_comes 156 = .ok (.iconst 0, 1) := by decide +kernel
theorem dX12_comes_157 : decode cX12_comes 157 = .ok (.dup2, 1) := by decide +kernel
theorem dX12_comes_158 : decode cX12_comes 158 = .ok (.iaload, 1) := by decide +kernel
theorem dX12_comes_159 : decode cX12_comes 159 = .ok (.iconst 1, 1) := by decide +kernel
theorem dX12_comes_160 : decode cX12_comes 160 = .ok (.iadd, 1) := by decide +kernel
theorem dX12_comes_161 : decode cX12_comes 161 = .ok (.iastore, 1) := by decide +kernel
theorem dX12_comes_162 : decode cX12_comes 162 = .ok (.aload_n 0, 1) := by decide +kernel
theorem dX12_comes_163 : decode cX12_comes 163 = .ok (.aload_n 0, 1) := by decide +kernel
theorem dX12_comes_164 : decode cX12_comes 164 = .ok (.getfield 26, 3) := by decide +kernel
theorem dX12_comes_167 : decode cX12_comes 167 = .ok (.invokevirtual 175, 3) := by decide +kernel
theorem dX12_comes_170 : decode cX12_comes 170 = .ok (.iload_n 3, 1) := by decide +kernel
theorem dX12_comes_171 : decode cX12_comes 171 = .ok (.ireturn, 1) := by decide +kernel
theorem dX12_steps_0 : decode cX12_steps 0 = .ok (.aload_n 0, 1) := by decide +kernel
theorem dX12_steps_1 : decode cX12_steps 1 = .ok (.getfield 26, 3) := by decide +kernel
theorem dX12_steps_4 : decode cX12_steps 4 = .ok (.iconst 1, 1) := by decide +kernel
theorem dX12_steps_5 : decode cX12_steps 5 = .ok (.iaload, 1) := by decide +kernel
theorem dX12_steps_6 : decode cX12_steps 6 = .ok (.sipush 999, 3) := by decide +kernel
theorem dX12_steps_9 : decode cX12_steps 9 = .ok (.if_icmp .ne 6, 3) := by decide +kernel
theorem dX12_steps_12 : decode cX12_steps 12 = .ok (.bipush (-2), 2) := by decide +kernel
theorem dX12_steps_14 : decode cX12_steps 14 = .ok (.ireturn, 1) := by decide +kernel
theorem dX12_steps_15 : decode cX12_steps 15 = .ok (.aload_n 0, 1) := by decide +kernel
theorem dX12_steps_16 : decode cX12_steps 16 = .ok (.invokevirtual 206, 3) := by decide +kernel
theorem dX12_steps_19 : decode cX12_steps 19 = .ok (.aload_n 0, 1) := by decide +kernel
theorem dX12_steps_20 : decode cX12_steps 20 = .ok (.aload_n 0, 1) := by decide +kernel
theorem dX12_steps_21 : decode cX12_steps 21 = .ok (.getfield 26, 3) := by decide +kernel
theorem dX12_steps_24 : decode cX12_steps 24 = .ok (.invokevirtual 179, 3) := by decide +kernel
theorem dX12_steps_27 : decode cX12_steps 27 = .ok (.ireturn, 1) := by decide +kernel
theorem dX12_leavesOn_0 : decode cX12_leavesOn 0 = .ok (.aload_n 0, 1) := by decide +kernel
theorem dX12_leavesOn_1 : decode cX12_leavesOn 1 = .ok (.bipush 20, 2) := by decide +kernel
theorem dX12_leavesOn_3 : decode cX12_leavesOn 3 = .ok (.iload_n 1, 1) := by decide +kernel
theorem dX12_leavesOn_4 : decode cX12_leavesOn 4 = .ok (.iadd, 1) := by decide +kernel
theorem dX12_leavesOn_5 : decode cX12_leavesOn 5 = .ok (.iconst 3, 1) := by decide +kernel
theorem dX12_leavesOn_6 : decode cX12_leavesOn 6 = .ok (.iastore, 1) := by decide +kernel
theorem dX12_leavesOn_7 : decode cX12_leavesOn 7 = .ok (.return_, 1) := by decide +kernel
theorem dX12_leaves_0 : decode cX12_leaves 0 = .ok (.aload_n 0, 1) := by decide +kernel
theorem dX12_leaves_1 : decode cX12_leaves 1 = .ok (.iload_n 1, 1) := by decide +kernel
theorem dX12_leaves_2 : decode cX12_leaves 2 = .ok (.invokevirtual 188, 3) := by decide +kernel
theorem dX12_leaves_5 : decode cX12_leaves 5 = .ok (.ifCond .ne 5, 3) := by decide +kernel
theorem dX12_leaves_8 : decode cX12_leaves 8 = .ok (.iconst (-1), 1) := by decide +kernel
theorem dX12_leaves_9 : decode cX12_leaves 9 = .ok (.ireturn, 1) := by decide +kernel
theorem dX12_leaves_10 : decode cX12_leaves 10 = .ok (.aload_n 0, 1) := by decide +kernel
theorem dX12_leaves_11 : decode cX12_leaves 11 = .ok (.getfield 26, 3) := by decide +kernel
theorem dX12_leaves_14 : decode cX12_leaves 14 = .ok (.bipush 20, 2) := by decide +kernel
theorem dX12_leaves_16 : decode cX12_leaves 16 = .ok (.iload_n 1, 1) := by decide +kernel
theorem dX12_leaves_17 : decode cX12_leaves 17 = .ok (.iadd, 1) := by decide +kernel
theorem dX12_leaves_18 : decode cX12_leaves 18 = .ok (.iaload, 1) := by decide +kernel
theorem dX12_leaves_19 : decode cX12_leaves 19 = .ok (.ifCond .eq 6, 3) := by decide +kernel
theorem dX12_leaves_22 : decode cX12_leaves 22 = .ok (.bipush (-2), 2) := by decide +kernel
theorem dX12_leaves_24 : decode cX12_leaves 24 = .ok (.ireturn, 1) := by decide +kernel
theorem dX12_leaves_25 : decode cX12_leaves 25 = .ok (.aload_n 0, 1) := by decide +kernel
theorem dX12_leaves_26 : decode cX12_leaves 26 = .ok (.invokevirtual 206, 3) := by decide +kernel
theorem dX12_leaves_29 : decode cX12_leaves 29 = .ok (.aload_n 0, 1) := by decide +kernel
theorem dX12_leaves_30 : decode cX12_leaves 30 = .ok (.getfield 26, 3) := by decide +kernel
theorem dX12_leaves_33 : decode cX12_leaves 33 = .ok (.iload_n 1, 1) := by decide +kernel
theorem dX12_leaves_34 : decode cX12_leaves 34 = .ok (.invokestatic 209, 3) := by decide +kernel
theorem dX12_leaves_37 : decode cX12_leaves 37 = .ok (.aload_n 0, 1) := by decide +kernel
theorem dX12_leaves_38 : decode cX12_leaves 38 = .ok (.aload_n 0, 1) := by decide +kernel
theorem dX12_leaves_39 : decode cX12_leaves 39 = .ok (.getfield 26, 3) := by decide +kernel
theorem dX12_leaves_42 : decode cX12_leaves 42 = .ok (.invokevirtual 175, 3) := by decide +kernel
theorem dX12_leaves_45 : decode cX12_leaves 45 = .ok (.aload_n 0, 1) := by decide +kernel
theorem dX12_leaves_46 : decode cX12_leaves 46 = .ok (.getfield 26, 3) := by decide +kernel
theorem dX12_leaves_49 : decode cX12_leaves 49 = .ok (.iconst 0, 1) := by decide +kernel
theorem dX12_leaves_50 : decode cX12_leaves 50 = .ok (.invokestatic 158, 3) := by decide +kernel
theorem dX12_leaves_53 : decode cX12_leaves 53 = .ok (.invokestatic 161, 3) := by decide +kernel
theorem dX12_leaves_56 : decode cX12_leaves 56 = .ok (.ireturn, 1) := by decide +kernel
theorem dX12_letsOn_0 : decode cX12_letsOn 0 = .ok (.aload_n 0, 1) := by decide +kernel
theorem dX12_letsOn_1 : decode cX12_letsOn 1 = .ok (.bipush 38, 2) := by decide +kernel
theorem dX12_letsOn_3 : decode cX12_letsOn 3 = .ok (.iload_n 1, 1) := by decide +kernel
theorem dX12_letsOn_4 : decode cX12_letsOn 4 = .ok (.iadd, 1) := by decide +kernel
theorem dX12_letsOn_5 : decode cX12_letsOn 5 = .ok (.aload_n 0, 1) := by decide +kernel
theorem dX12_letsOn_6 : decode cX12_letsOn 6 = .ok (.bipush 38, 2) := by decide +kernel
theorem dX12_letsOn_8 : decode cX12_letsOn 8 = .ok (.aload_n 0, 1) := by decide +kernel
theorem dX12_letsOn_9 : decode cX12_letsOn 9 = .ok (.aload_n 0, 1) := by decide +kernel
theorem dX12_letsOn_10 : decode cX12_letsOn 10 = .ok (.bipush 11, 2) := by decide +kernel
theorem dX12_letsOn_12 : decode cX12_letsOn 12 = .ok (.iload_n 1, 1) := by decide +kernel
theorem dX12_letsOn_13 : decode cX12_letsOn 13 = .ok (.iadd, 1) := by decide +kernel
theorem dX12_letsOn_14 : decode cX12_letsOn 14 = .ok (.iaload, 1) := by decide +kernel
theorem dX12_letsOn_15 : decode cX12_letsOn 15 = .ok (.invokestatic 148, 3) := by decide +kernel
theorem dX12_letsOn_18 : decode cX12_letsOn 18 = .ok (.iadd, 1) := by decide +kernel
theorem dX12_letsOn_19 : decode cX12_letsOn 19 = .ok (.iaload, 1) := by decide +kernel
theorem dX12_letsOn_20 : decode cX12_letsOn 20 = .ok (.iconst 1, 1) := by decide +kernel
theorem dX12_letsOn_21 : decode cX12_letsOn 21 = .ok (.isub, 1) := by decide +kernel
theorem dX12_letsOn_22 : decode cX12_letsOn 22 = .ok (.iastore, 1) := by decide +kernel
theorem dX12_letsOn_23 : decode cX12_letsOn 23 = .ok (.return_, 1) := by decide +kernel
theorem dX12_lets_0 : decode cX12_lets 0 = .ok (.aload_n 0, 1) := by decide +kernel
theorem dX12_lets_1 : decode cX12_lets 1 = .ok (.iload_n 1, 1) := by decide +kernel
theorem dX12_lets_2 : decode cX12_lets 2 = .ok (.invokevirtual 188, 3) := by decide +kernel
theorem dX12_lets_5 : decode cX12_lets 5 = .ok (.ifCond .ne 5, 3) := by decide +kernel
theorem dX12_lets_8 : decode cX12_lets 8 = .ok (.iconst (-1), 1) := by decide +kernel
theorem dX12_lets_9 : decode cX12_lets 9 = .ok (.ireturn, 1) := by decide +kernel
theorem dX12_lets_10 : decode cX12_lets 10 = .ok (.aload_n 0, 1) := by decide +kernel
theorem dX12_lets_11 : decode cX12_lets 11 = .ok (.getfield 26, 3) := by decide +kernel
theorem dX12_lets_14 : decode cX12_lets 14 = .ok (.iload_n 1, 1) := by decide +kernel
theorem dX12_lets_15 : decode cX12_lets 15 = .ok (.invokestatic 191, 3) := by decide +kernel
theorem dX12_lets_18 : decode cX12_lets 18 = .ok (.istore_n 2, 1) := by decide +kernel
theorem dX12_lets_19 : decode cX12_lets 19 = .ok (.aload_n 0, 1) := by decide +kernel
theorem dX12_lets_20 : decode cX12_lets 20 = .ok (.getfield 26, 3) := by decide +kernel
theorem dX12_lets_23 : decode cX12_lets 23 = .ok (.bipush 20, 2) := by decide +kernel
theorem dX12_lets_25 : decode cX12_lets 25 = .ok (.iload_n 1, 1) := by decide +kernel
theorem dX12_lets_26 : decode cX12_lets 26 = .ok (.iadd, 1) := by decide +kernel
theorem dX12_lets_27 : decode cX12_lets 27 = .ok (.iaload, 1) := by decide +kernel
theorem dX12_lets_28 : decode cX12_lets 28 = .ok (.ifCond .ne 7, 3) := by decide +kernel
theorem dX12_lets_31 : decode cX12_lets 31 = .ok (.iload_n 2, 1) := by decide +kernel
theorem dX12_lets_32 : decode cX12_lets 32 = .ok (.ifCond .ne 6, 3) := by decide +kernel
theorem dX12_lets_35 : decode cX12_lets 35 = .ok (.bipush (-2), 2) := by decide +kernel
theorem dX12_lets_37 : decode cX12_lets 37 = .ok (.ireturn, 1) := by decide +kernel
theorem dX12_lets_38 : decode cX12_lets 38 = .ok (.aload_n 0, 1) := by decide +kernel
theorem dX12_lets_39 : decode cX12_lets 39 = .ok (.invokevirtual 206, 3) := by decide +kernel
theorem dX12_lets_42 : decode cX12_lets 42 = .ok (.aload_n 0, 1) := by decide +kernel
theorem dX12_lets_43 : decode cX12_lets 43 = .ok (.getfield 26, 3) := by decide +kernel
theorem dX12_lets_46 : decode cX12_lets 46 = .ok (.iload_n 1, 1) := by decide +kernel
theorem dX12_lets_47 : decode cX12_lets 47 = .ok (.invokestatic 213, 3) := by decide +kernel
theorem dX12_lets_50 : decode cX12_lets 50 = .ok (.aload_n 0, 1) := by decide +kernel
theorem dX12_lets_51 : decode cX12_lets 51 = .ok (.aload_n 0, 1) := by decide +kernel
theorem dX12_lets_52 : decode cX12_lets 52 = .ok (.getfield 26, 3) := by decide +kernel
theorem dX12_lets_55 : decode cX12_lets 55 = .ok (.invokevirtual 175, 3) := by decide +kernel
theorem dX12_lets_58 : decode cX12_lets 58 = .ok (.iload_n 2, 1) := by decide +kernel
theorem dX12_lets_59 : decode cX12_lets 59 = .ok (.ireturn, 1) := by decide +kernel
theorem dX12_undo_0 : decode cX12_undo 0 = .ok (.aload_n 0, 1) := by decide +kernel
theorem dX12_undo_1 : decode cX12_undo 1 = .ok (.getfield 132, 3) := by decide +kernel
theorem dX12_undo_4 : decode cX12_undo 4 = .ok (.ifCond .ne 6, 3) := by decide +kernel
theorem dX12_undo_7 : decode cX12_undo 7 = .ok (.bipush (-2), 2) := by decide +kernel
theorem dX12_undo_9 : decode cX12_undo 9 = .ok (.ireturn, 1) := by decide +kernel
theorem dX12_undo_10 : decode cX12_undo 10 = .ok (.aload_n 0, 1) := by decide +kernel
theorem dX12_undo_11 : decode cX12_undo 11 = .ok (.dup, 1) := by decide +kernel
theorem dX12_undo_12 : decode cX12_undo 12 = .ok (.getfield 132, 3) := by decide +kernel
theorem dX12_undo_15 : decode cX12_undo 15 = .ok (.iconst 1, 1) := by decide +kernel
theorem dX12_undo_16 : decode cX12_undo 16 = .ok (.isub, 1) := by decide +kernel
theorem dX12_undo_17 : decode cX12_undo 17 = .ok (.putfield 132, 3) := by decide +kernel
theorem dX12_undo_20 : decode cX12_undo 20 = .ok (.aload_n 0, 1) := by decide +kernel
theorem dX12_undo_21 : decode cX12_undo 21 = .ok (.getfield 32, 3) := by decide +kernel
theorem dX12_undo_24 : decode cX12_undo 24 = .ok (.bipush 47, 2) := by decide +kernel
theorem dX12_undo_26 : decode cX12_undo 26 = .ok (.aload_n 0, 1) := by decide +kernel
theorem dX12_undo_27 : decode cX12_undo 27 = .ok (.getfield 132, 3) := by decide +kernel
theorem dX12_undo_30 : decode cX12_undo 30 = .ok (.imul, 1) := by decide +kernel
theorem dX12_undo_31 : decode cX12_undo 31 = .ok (.aload_n 0, 1) := by decide +kernel
theorem dX12_undo_32 : decode cX12_undo 32 = .ok (.getfield 26, 3) := by decide +kernel
theorem dX12_undo_35 : decode cX12_undo 35 = .ok (.iconst 0, 1) := by decide +kernel
theorem dX12_undo_36 : decode cX12_undo 36 = .ok (.bipush 47, 2) := by decide +kernel
theorem dX12_undo_38 : decode cX12_undo 38 = .ok (.invokestatic 128, 3) := by decide +kernel
theorem dX12_undo_41 : decode cX12_undo 41 = .ok (.aload_n 0, 1) := by decide +kernel
theorem dX12_undo_42 : decode cX12_undo 42 = .ok (.getfield 132, 3) := by decide +kernel
theorem dX12_undo_45 : decode cX12_undo 45 = .ok (.ireturn, 1) := by decide +kernel
theorem dX12_best_0 : decode cX12_best 0 = .ok (.aload_n 0, 1) := by decide +kernel
theorem dX12_best_1 : decode cX12_best 1 = .ok (.invokevirtual 182, 3) := by decide +kernel
theorem dX12_best_4 : decode cX12_best 4 = .ok (.aload_n 0, 1) := by decide +kernel
theorem dX12_best_5 : decode cX12_best 5 = .ok (.iload_n 1, 1) := by decide +kernel
theorem dX12_best_6 : decode cX12_best 6 = .ok (.invokevirtual 185, 3) := by decide +kernel
theorem dX12_best_9 : decode cX12_best 9 = .ok (.istore_n 3, 1) := by decide +kernel
theorem dX12_best_10 : decode cX12_best 10 = .ok (.bipush (-9), 2) := by decide +kernel
theorem dX12_best_12 : decode cX12_best 12 = .ok (.istore 4, 2) := by decide +kernel
theorem dX12_best_14 : decode cX12_best 14 = .ok (.iconst 0, 1) := by decide +kernel
theorem dX12_best_15 : decode cX12_best 15 = .ok (.istore 5, 2) := by decide +kernel
theorem dX12_best_17 : decode cX12_best 17 = .ok (.iload 5, 2) := by decide +kernel
theorem dX12_best_19 : decode cX12_best 19 = .ok (.aload_n 0, 1) := by decide +kernel
theorem dX12_best_20 : decode cX12_best 20 = .ok (.getfield 26, 3) := by decide +kernel
theorem dX12_best_23 : decode cX12_best 23 = .ok (.iconst 0, 1) := by decide +kernel
theorem dX12_best_24 : decode cX12_best 24 = .ok (.iaload, 1) := by decide +kernel
theorem dX12_best_25 : decode cX12_best 25 = .ok (.if_icmp .ge 116, 3) := by decide +kernel
theorem dX12_best_28 : decode cX12_best 28 = .ok (.iload 5, 2) := by decide +kernel
theorem dX12_best_30 : decode cX12_best 30 = .ok (.iload_n 1, 1) := by decide +kernel
theorem dX12_best_31 : decode cX12_best 31 = .ok (.if_icmp .eq 104, 3) := by decide +kernel
theorem dX12_best_34 : decode cX12_best 34 = .ok (.aload_n 0, 1) := by decide +kernel
theorem dX12_best_35 : decode cX12_best 35 = .ok (.getfield 26, 3) := by decide +kernel
theorem dX12_best_38 : decode cX12_best 38 = .ok (.bipush 20, 2) := by decide +kernel
theorem dX12_best_40 : decode cX12_best 40 = .ok (.iload 5, 2) := by decide +kernel
theorem dX12_best_42 : decode cX12_best 42 = .ok (.iadd, 1) := by decide +kernel
theorem dX12_best_43 : decode cX12_best 43 = .ok (.iaload, 1) := by decide +kernel
theorem dX12_best_44 : decode cX12_best 44 = .ok (.ifCond .ne 91, 3) := by decide +kernel
theorem dX12_best_47 : decode cX12_best 47 = .ok (.iload_n 2, 1) := by decide +kernel
theorem dX12_best_48 : decode cX12_best 48 = .ok (.ifCond .ne 15, 3) := by decide +kernel
theorem dX12_best_51 : decode cX12_best 51 = .ok (.aload_n 0, 1) := by decide +kernel
theorem dX12_best_52 : decode cX12_best 52 = .ok (.getfield 26, 3) := by decide +kernel
theorem dX12_best_55 : decode cX12_best 55 = .ok (.iload 5, 2) := by decide +kernel
theorem dX12_best_57 : decode cX12_best 57 = .ok (.invokestatic 191, 3) := by decide +kernel
theorem dX12_best_60 : decode cX12_best 60 = .ok (.ifCond .le 75, 3) := by decide +kernel
theorem dX12_best_63 : decode cX12_best 63 = .ok (.aload_n 0, 1) := by decide +kernel
theorem dX12_best_64 : decode cX12_best 64 = .ok (.invokevirtual 182, 3) := by decide +kernel
theorem dX12_best_67 : decode cX12_best 67 = .ok (.iload_n 2, 1) := by decide +kernel
theorem dX12_best_68 : decode cX12_best 68 = .ok (.ifCond .eq 15, 3) := by decide +kernel
theorem dX12_best_71 : decode cX12_best 71 = .ok (.aload_n 0, 1) := by decide +kernel
theorem dX12_best_72 : decode cX12_best 72 = .ok (.getfield 29, 3) := by decide +kernel
theorem dX12_best_75 : decode cX12_best 75 = .ok (.iload 5, 2) := by decide +kernel
theorem dX12_best_77 : decode cX12_best 77 = .ok (.invokestatic 209, 3) := by decide +kernel
theorem dX12_best_80 : decode cX12_best 80 = .ok (.goto 12, 3) := by decide +kernel
theorem dX12_best_83 : decode cX12_best 83 = .ok (.aload_n 0, 1) := by decide +kernel
theorem dX12_best_84 : decode cX12_best 84 = .ok (.getfield 29, 3) := by decide +kernel
theorem dX12_best_87 : decode cX12_best 87 = .ok (.iload 5, 2) := by decide +kernel
theorem dX12_best_89 : decode cX12_best 89 = .ok (.invokestatic 213, 3) := by decide +kernel
theorem dX12_best_92 : decode cX12_best 92 = .ok (.aload_n 0, 1) := by decide +kernel
theorem dX12_best_93 : decode cX12_best 93 = .ok (.aload_n 0, 1) := by decide +kernel
theorem dX12_best_94 : decode cX12_best 94 = .ok (.getfield 29, 3) := by decide +kernel
theorem dX12_best_97 : decode cX12_best 97 = .ok (.invokevirtual 175, 3) := by decide +kernel
theorem dX12_best_100 : decode cX12_best 100 = .ok (.aload_n 0, 1) := by decide +kernel
theorem dX12_best_101 : decode cX12_best 101 = .ok (.iload_n 1, 1) := by decide +kernel
theorem dX12_best_102 : decode cX12_best 102 = .ok (.invokevirtual 185, 3) := by decide +kernel
theorem dX12_best_105 : decode cX12_best 105 = .ok (.istore 6, 2) := by decide +kernel
theorem dX12_best_107 : decode cX12_best 107 = .ok (.iload 6, 2) := by decide +kernel
theorem dX12_best_109 : decode cX12_best 109 = .ok (.iload_n 3, 1) := by decide +kernel
theorem dX12_best_110 : decode cX12_best 110 = .ok (.if_icmp .ge 8, 3) := by decide +kernel
theorem dX12_best_113 : decode cX12_best 113 = .ok (.iload 5, 2) := by decide +kernel
theorem dX12_best_115 : decode cX12_best 115 = .ok (.goto 5, 3) := by decide +kernel
theorem dX12_best_118 : decode cX12_best 118 = .ok (.iload 4, 2) := by decide +kernel
theorem dX12_best_120 : decode cX12_best 120 = .ok (.istore 4, 2) := by decide +kernel
theorem dX12_best_122 : decode cX12_best 122 = .ok (.iload 6, 2) := by decide +kernel
theorem dX12_best_124 : decode cX12_best 124 = .ok (.iload_n 3, 1) := by decide +kernel
theorem dX12_best_125 : decode cX12_best 125 = .ok (.if_icmp .ge 8, 3) := by decide +kernel
theorem dX12_best_128 : decode cX12_best 128 = .ok (.iload 6, 2) := by decide +kernel
theorem dX12_best_130 : decode cX12_best 130 = .ok (.goto 4, 3) := by decide +kernel
theorem dX12_best_133 : decode cX12_best 133 = .ok (.iload_n 3, 1) := by decide +kernel
theorem dX12_best_134 : decode cX12_best 134 = .ok (.istore_n 3, 1) := by decide +kernel
theorem dX12_best_135 : decode cX12_best 135 = .ok (.iinc 5 1, 3) := by decide +kernel
theorem dX12_best_138 : decode cX12_best 138 = .ok (.goto (-121), 3) := by decide +kernel
theorem dX12_best_141 : decode cX12_best 141 = .ok (.iload 4, 2) := by decide +kernel
theorem dX12_best_143 : decode cX12_best 143 = .ok (.ireturn, 1) := by decide +kernel
theorem dX12_spare_0 : decode cX12_spare 0 = .ok (.aload_n 0, 1) := by decide +kernel
theorem dX12_spare_1 : decode cX12_spare 1 = .ok (.iload_n 1, 1) := by decide +kernel
theorem dX12_spare_2 : decode cX12_spare 2 = .ok (.invokevirtual 188, 3) := by decide +kernel
theorem dX12_spare_5 : decode cX12_spare 5 = .ok (.ifCond .eq 12, 3) := by decide +kernel
theorem dX12_spare_8 : decode cX12_spare 8 = .ok (.aload_n 0, 1) := by decide +kernel
theorem dX12_spare_9 : decode cX12_spare 9 = .ok (.iload_n 1, 1) := by decide +kernel
theorem dX12_spare_10 : decode cX12_spare 10 = .ok (.iconst 1, 1) := by decide +kernel
theorem dX12_spare_11 : decode cX12_spare 11 = .ok (.invokevirtual 216, 3) := by decide +kernel
theorem dX12_spare_14 : decode cX12_spare 14 = .ok (.goto 4, 3) := by decide +kernel
theorem dX12_spare_17 : decode cX12_spare 17 = .ok (.iconst (-1), 1) := by decide +kernel
theorem dX12_spare_18 : decode cX12_spare 18 = .ok (.ireturn, 1) := by decide +kernel
theorem dX12_ahead_0 : decode cX12_ahead 0 = .ok (.aload_n 0, 1) := by decide +kernel
theorem dX12_ahead_1 : decode cX12_ahead 1 = .ok (.iload_n 1, 1) := by decide +kernel
theorem dX12_ahead_2 : decode cX12_ahead 2 = .ok (.invokevirtual 188, 3) := by decide +kernel
theorem dX12_ahead_5 : decode cX12_ahead 5 = .ok (.ifCond .eq 12, 3) := by decide +kernel
theorem dX12_ahead_8 : decode cX12_ahead 8 = .ok (.aload_n 0, 1) := by decide +kernel
theorem dX12_ahead_9 : decode cX12_ahead 9 = .ok (.iload_n 1, 1) := by decide +kernel
theorem dX12_ahead_10 : decode cX12_ahead 10 = .ok (.iconst 0, 1) := by decide +kernel
theorem dX12_ahead_11 : decode cX12_ahead 11 = .ok (.invokevirtual 216, 3) := by decide +kernel
theorem dX12_ahead_14 : decode cX12_ahead 14 = .ok (.goto 4, 3) := by decide +kernel
theorem dX12_ahead_17 : decode cX12_ahead 17 = .ok (.iconst (-1), 1) := by decide +kernel
theorem dX12_ahead_18 : decode cX12_ahead 18 = .ok (.ireturn, 1) := by decide +kernel
theorem dX12_power_0 : decode cX12_power 0 = .ok (.lconst 1, 1) := by decide +kernel
theorem dX12_power_1 : decode cX12_power 1 = .ok (.lstore_n 3, 1) := by decide +kernel
theorem dX12_power_2 : decode cX12_power 2 = .ok (.iconst 0, 1) := by decide +kernel
theorem dX12_power_3 : decode cX12_power 3 = .ok (.istore 5, 2) := by decide +kernel
theorem dX12_power_5 : decode cX12_power 5 = .ok (.iload 5, 2) := by decide +kernel
theorem dX12_power_7 : decode cX12_power 7 = .ok (.iload_n 2, 1) := by decide +kernel
theorem dX12_power_8 : decode cX12_power 8 = .ok (.if_icmp .ge 13, 3) := by decide +kernel
theorem dX12_power_11 : decode cX12_power 11 = .ok (.lload_n 3, 1) := by decide +kernel
theorem dX12_power_12 : decode cX12_power 12 = .ok (.lload_n 0, 1) := by decide +kernel
theorem dX12_power_13 : decode cX12_power 13 = .ok (.lmul, 1) := by decide +kernel
theorem dX12_power_14 : decode cX12_power 14 = .ok (.lstore_n 3, 1) := by decide +kernel
theorem dX12_power_15 : decode cX12_power 15 = .ok (.iinc 5 1, 3) := by decide +kernel
theorem dX12_power_18 : decode cX12_power 18 = .ok (.goto (-13), 3) := by decide +kernel
theorem dX12_power_21 : decode cX12_power 21 = .ok (.lload_n 3, 1) := by decide +kernel
theorem dX12_power_22 : decode cX12_power 22 = .ok (.lreturn, 1) := by decide +kernel
theorem dX12_odds_0 : decode cX12_odds 0 = .ok (.iload_n 1, 1) := by decide +kernel
theorem dX12_odds_1 : decode cX12_odds 1 = .ok (.i2l, 1) := by decide +kernel
theorem dX12_odds_2 : decode cX12_odds 2 = .ok (.lconst 0, 1) := by decide +kernel
theorem dX12_odds_3 : decode cX12_odds 3 = .ok (.ldc2_w 220, 3) := by decide +kernel
theorem dX12_odds_6 : decode cX12_odds 6 = .ok (.invokestatic 56, 3) := by decide +kernel
theorem dX12_odds_9 : decode cX12_odds 9 = .ok (.ifCond .eq 10, 3) := by decide +kernel
theorem dX12_odds_12 : decode cX12_odds 12 = .ok (.iload_n 2, 1) := by decide +kernel
theorem dX12_odds_13 : decode cX12_odds 13 = .ok (.invokestatic 197, 3) := by decide +kernel
theorem dX12_odds_16 : decode cX12_odds 16 = .ok (.ifCond .ne 5, 3) := by decide +kernel
theorem dX12_odds_19 : decode cX12_odds 19 = .ok (.iconst (-1), 1) := by decide +kernel
theorem dX12_odds_20 : decode cX12_odds 20 = .ok (.ireturn, 1) := by decide +kernel
theorem dX12_odds_21 : decode cX12_odds 21 = .ok (.aload_n 0, 1) := by decide +kernel
theorem dX12_odds_22 : decode cX12_odds 22 = .ok (.getfield 26, 3) := by decide +kernel
theorem dX12_odds_25 : decode cX12_odds 25 = .ok (.iconst 1, 1) := by decide +kernel
theorem dX12_odds_26 : decode cX12_odds 26 = .ok (.invokestatic 158, 3) := by decide +kernel
theorem dX12_odds_29 : decode cX12_odds 29 = .ok (.istore_n 3, 1) := by decide +kernel
theorem dX12_odds_30 : decode cX12_odds 30 = .ok (.iload_n 3, 1) := by decide +kernel
theorem dX12_odds_31 : decode cX12_odds 31 = .ok (.invokestatic 161, 3) := by decide +kernel
theorem dX12_odds_34 : decode cX12_odds 34 = .ok (.istore 4, 2) := by decide +kernel
theorem dX12_odds_36 : decode cX12_odds 36 = .ok (.iload 4, 2) := by decide +kernel
theorem dX12_odds_38 : decode cX12_odds 38 = .ok (.ifCond .ne 5, 3) := by decide +kernel
theorem dX12_odds_41 : decode cX12_odds 41 = .ok (.iload_n 2, 1) := by decide +kernel
theorem dX12_odds_42 : decode cX12_odds 42 = .ok (.ireturn, 1) := by decide +kernel
theorem dX12_odds_43 : decode cX12_odds 43 = .ok (.aload_n 0, 1) := by decide +kernel
theorem dX12_odds_44 : decode cX12_odds 44 = .ok (.aload_n 0, 1) := by decide +kernel
theorem dX12_odds_45 : decode cX12_odds 45 = .ok (.getfield 26, 3) := by decide +kernel
theorem dX12_odds_48 : decode cX12_odds 48 = .ok (.invokevirtual 168, 3) := by decide +kernel
theorem dX12_odds_51 : decode cX12_odds 51 = .ok (.istore 5, 2) := by decide +kernel
theorem dX12_odds_53 : decode cX12_odds 53 = .ok (.lconst 0, 1) := by decide +kernel
theorem dX12_odds_54 : decode cX12_odds 54 = .ok (.lstore 6, 2) := by decide +kernel
theorem dX12_odds_56 : decode cX12_odds 56 = .ok (.iconst 0, 1) := by decide +kernel
theorem dX12_odds_57 : decode cX12_odds 57 = .ok (.istore 8, 2) := by decide +kernel
theorem dX12_odds_59 : decode cX12_odds 59 = .ok (.iload 8, 2) := by decide +kernel
theorem dX12_odds_61 : decode cX12_odds 61 = .ok (.sipush 512, 3) := by decide +kernel
theorem dX12_odds_64 : decode cX12_odds 64 = .ok (.if_icmp .ge 117, 3) := by decide +kernel
theorem dX12_odds_67 : decode cX12_odds 67 = .ok (.iload 8, 2) := by decide +kernel
theorem dX12_odds_69 : decode cX12_odds 69 = .ok (.iload_n 3, 1) := by decide +kernel
theorem dX12_odds_70 : decode cX12_odds 70 = .ok (.iconst (-1), 1) := by decide +kernel
theorem dX12_odds_71 : decode cX12_odds 71 = .ok (.ixor, 1) := by decide +kernel
theorem dX12_odds_72 : decode cX12_odds 72 = .ok (.iand, 1) := by decide +kernel
theorem dX12_odds_73 : decode cX12_odds 73 = .ok (.ifCond .ne 102, 3) := by decide +kernel
theorem dX12_odds_76 : decode cX12_odds 76 = .ok (.iconst 0, 1) := by decide +kernel
theorem dX12_odds_77 : decode cX12_odds 77 = .ok (.istore 9, 2) := by decide +kernel
theorem dX12_odds_79 : decode cX12_odds 79 = .ok (.iconst 0, 1) := by decide +kernel
theorem dX12_odds_80 : decode cX12_odds 80 = .ok (.istore 10, 2) := by decide +kernel
theorem dX12_odds_82 : decode cX12_odds 82 = .ok (.iload 10, 2) := by decide +kernel
theorem dX12_odds_84 : decode cX12_odds 84 = .ok (.aload_n 0, 1) := by decide +kernel
theorem dX12_odds_85 : decode cX12_odds 85 = .ok (.getfield 26, 3) := by decide +kernel
theorem dX12_odds_88 : decode cX12_odds 88 = .ok (.iconst 0, 1) := by decide +kernel
theorem dX12_odds_89 : decode cX12_odds 89 = .ok (.iaload, 1) := by decide +kernel
theorem dX12_odds_90 : decode cX12_odds 90 = .ok (.if_icmp .ge 42, 3) := by decide +kernel
theorem dX12_odds_93 : decode cX12_odds 93 = .ok (.iload 9, 2) := by decide +kernel
theorem dX12_odds_95 : decode cX12_odds 95 = .ok (.iload 8, 2) := by decide +kernel
theorem dX12_odds_97 : decode cX12_odds 97 = .ok (.iload 10, 2) := by decide +kernel
theorem dX12_odds_99 : decode cX12_odds 99 = .ok (.invokestatic 142, 3) := by decide +kernel
theorem dX12_odds_102 : decode cX12_odds 102 = .ok (.ifCond .eq 20, 3) := by decide +kernel
theorem dX12_odds_105 : decode cX12_odds 105 = .ok (.aload_n 0, 1) := by decide +kernel
theorem dX12_odds_106 : decode cX12_odds 106 = .ok (.getfield 23, 3) := by decide +kernel
theorem dX12_odds_109 : decode cX12_odds 109 = .ok (.aload_n 0, 1) := by decide +kernel
theorem dX12_odds_110 : decode cX12_odds 110 = .ok (.getfield 26, 3) := by decide +kernel
theorem dX12_odds_113 : decode cX12_odds 113 = .ok (.iconst 2, 1) := by decide +kernel
theorem dX12_odds_114 : decode cX12_odds 114 = .ok (.iload 10, 2) := by decide +kernel
theorem dX12_odds_116 : decode cX12_odds 116 = .ok (.iadd, 1) := by decide +kernel
theorem dX12_odds_117 : decode cX12_odds 117 = .ok (.iaload, 1) := by decide +kernel
theorem dX12_odds_118 : decode cX12_odds 118 = .ok (.iaload, 1) := by decide +kernel
theorem dX12_odds_119 : decode cX12_odds 119 = .ok (.goto 4, 3) := by decide +kernel
theorem dX12_odds_122 : decode cX12_odds 122 = .ok (.iconst 0, 1) := by decide +kernel
theorem dX12_odds_123 : decode cX12_odds 123 = .ok (.iadd, 1) := by decide +kernel
theorem dX12_odds_124 : decode cX12_odds 124 = .ok (.istore 9, 2) := by decide +kernel
theorem dX12_odds_126 : decode cX12_odds 126 = .ok (.iinc 10 1, 3) := by decide +kernel
theorem dX12_odds_129 : decode cX12_odds 129 = .ok (.goto (-47), 3) := by decide +kernel
theorem dX12_odds_132 : decode cX12_odds 132 = .ok (.lload 6, 2) := by decide +kernel
theorem dX12_odds_134 : decode cX12_odds 134 = .ok (.iload 9, 2) := by decide +kernel
theorem dX12_odds_136 : decode cX12_odds 136 = .ok (.iload 5, 2) := by decide +kernel
theorem dX12_odds_138 : decode cX12_odds 138 = .ok (.if_icmp .ge 7, 3) := by decide +kernel
theorem dX12_odds_141 : decode cX12_odds 141 = .ok (.lconst 0, 1) := by decide +kernel
theorem dX12_odds_142 : decode cX12_odds 142 = .ok (.goto 30, 3) := by decide +kernel
theorem dX12_odds_145 : decode cX12_odds 145 = .ok (.bipush 10, 2) := by decide +kernel
theorem dX12_odds_147 : decode cX12_odds 147 = .ok (.iload_n 1, 1) := by decide +kernel
theorem dX12_odds_148 : decode cX12_odds 148 = .ok (.isub, 1) := by decide +kernel
theorem dX12_odds_149 : decode cX12_odds 149 = .ok (.i2l, 1) := by decide +kernel
theorem dX12_odds_150 : decode cX12_odds 150 = .ok (.iload 8, 2) := by decide +kernel
theorem dX12_odds_152 : decode cX12_odds 152 = .ok (.invokestatic 161, 3) := by decide +kernel
theorem dX12_odds_155 : decode cX12_odds 155 = .ok (.invokestatic 222, 3) := by decide +kernel
theorem dX12_odds_158 : decode cX12_odds 158 = .ok (.iload_n 1, 1) := by decide +kernel
theorem dX12_odds_159 : decode cX12_odds 159 = .ok (.i2l, 1) := by decide +kernel
theorem dX12_odds_160 : decode cX12_odds 160 = .ok (.iload 4, 2) := by decide +kernel
theorem dX12_odds_162 : decode cX12_odds 162 = .ok (.iload 8, 2) := by decide +kernel
theorem dX12_odds_164 : decode cX12_odds 164 = .ok (.invokestatic 161, 3) := by decide +kernel
theorem dX12_odds_167 : decode cX12_odds 167 = .ok (.isub, 1) := by decide +kernel
theorem dX12_odds_168 : decode cX12_odds 168 = .ok (.invokestatic 222, 3) := by decide +kernel
theorem dX12_odds_171 : decode cX12_odds 171 = .ok (.lmul, 1) := by decide +kernel
theorem dX12_odds_172 : decode cX12_odds 172 = .ok (.ladd, 1) := by decide +kernel
theorem dX12_odds_173 : decode cX12_odds 173 = .ok (.lstore 6, 2) := by decide +kernel
theorem dX12_odds_175 : decode cX12_odds 175 = .ok (.iinc 8 1, 3) := by decide +kernel
theorem dX12_odds_178 : decode cX12_odds 178 = .ok (.goto (-119), 3) := by decide +kernel
theorem dX12_odds_181 : decode cX12_odds 181 = .ok (.ldc2_w 220, 3) := by decide +kernel
theorem dX12_odds_184 : decode cX12_odds 184 = .ok (.iload 4, 2) := by decide +kernel
theorem dX12_odds_186 : decode cX12_odds 186 = .ok (.invokestatic 222, 3) := by decide +kernel
theorem dX12_odds_189 : decode cX12_odds 189 = .ok (.lstore 8, 2) := by decide +kernel
theorem dX12_odds_191 : decode cX12_odds 191 = .ok (.lload 6, 2) := by decide +kernel
theorem dX12_odds_193 : decode cX12_odds 193 = .ok (.lstore 10, 2) := by decide +kernel
theorem dX12_odds_195 : decode cX12_odds 195 = .ok (.lload 8, 2) := by decide +kernel
theorem dX12_odds_197 : decode cX12_odds 197 = .ok (.lstore 12, 2) := by decide +kernel
theorem dX12_odds_199 : decode cX12_odds 199 = .ok (.lload 12, 2) := by decide +kernel
theorem dX12_odds_201 : decode cX12_odds 201 = .ok (.lconst 0, 1) := by decide +kernel
theorem dX12_odds_202 : decode cX12_odds 202 = .ok (.lcmp, 1) := by decide +kernel
theorem dX12_odds_203 : decode cX12_odds 203 = .ok (.ifCond .eq 21, 3) := by decide +kernel
theorem dX12_odds_206 : decode cX12_odds 206 = .ok (.lload 10, 2) := by decide +kernel
theorem dX12_odds_208 : decode cX12_odds 208 = .ok (.lload 12, 2) := by decide +kernel
theorem dX12_odds_210 : decode cX12_odds 210 = .ok (.lrem, 1) := by decide +kernel
theorem dX12_odds_211 : decode cX12_odds 211 = .ok (.lstore 14, 2) := by decide +kernel
theorem dX12_odds_213 : decode cX12_odds 213 = .ok (.lload 12, 2) := by decide +kernel
theorem dX12_odds_215 : decode cX12_odds 215 = .ok (.lstore 10, 2) := by decide +kernel
theorem dX12_odds_217 : decode cX12_odds 217 = .ok (.lload 14, 2) := by decide +kernel
theorem dX12_odds_219 : decode cX12_odds 219 = .ok (.lstore 12, 2) := by decide +kernel
theorem dX12_odds_221 : decode cX12_odds 221 = .ok (.goto (-22), 3) := by decide +kernel
theorem dX12_odds_224 : decode cX12_odds 224 = .ok (.iload_n 2, 1) := by decide +kernel
theorem dX12_odds_225 : decode cX12_odds 225 = .ok (.ifCond .ne 8, 3) := by decide +kernel
theorem dX12_odds_228 : decode cX12_odds 228 = .ok (.lload 6, 2) := by decide +kernel
theorem dX12_odds_230 : decode cX12_odds 230 = .ok (.goto 5, 3) := by decide +kernel
theorem dX12_odds_233 : decode cX12_odds 233 = .ok (.lload 8, 2) := by decide +kernel
theorem dX12_odds_235 : decode cX12_odds 235 = .ok (.lload 10, 2) := by decide +kernel
theorem dX12_odds_237 : decode cX12_odds 237 = .ok (.ldiv, 1) := by decide +kernel
theorem dX12_odds_238 : decode cX12_odds 238 = .ok (.l2i, 1) := by decide +kernel
theorem dX12_odds_239 : decode cX12_odds 239 = .ok (.ireturn, 1) := by decide +kernel
theorem dX12_sees_0 : decode cX12_sees 0 = .ok (.iload_n 1, 1) := by decide +kernel
theorem dX12_sees_1 : decode cX12_sees 1 = .ok (.invokestatic 197, 3) := by decide +kernel
theorem dX12_sees_4 : decode cX12_sees 4 = .ok (.ifCond .eq 41, 3) := by decide +kernel
theorem dX12_sees_7 : decode cX12_sees 7 = .ok (.iload_n 1, 1) := by decide +kernel
theorem dX12_sees_8 : decode cX12_sees 8 = .ok (.ifCond .ne 18, 3) := by decide +kernel
theorem dX12_sees_11 : decode cX12_sees 11 = .ok (.iload_n 2, 1) := by decide +kernel
theorem dX12_sees_12 : decode cX12_sees 12 = .ok (.i2l, 1) := by decide +kernel
theorem dX12_sees_13 : decode cX12_sees 13 = .ok (.lconst 1, 1) := by decide +kernel
theorem dX12_sees_14 : decode cX12_sees 14 = .ok (.ldc2_w 226, 3) := by decide +kernel
theorem dX12_sees_17 : decode cX12_sees 17 = .ok (.invokestatic 56, 3) := by decide +kernel
theorem dX12_sees_20 : decode cX12_sees 20 = .ok (.ifCond .eq 25, 3) := by decide +kernel
theorem dX12_sees_23 : decode cX12_sees 23 = .ok (.goto 15, 3) := by decide +kernel
theorem dX12_sees_26 : decode cX12_sees 26 = .ok (.iload_n 2, 1) := by decide +kernel
theorem dX12_sees_27 : decode cX12_sees 27 = .ok (.i2l, 1) := by decide +kernel
theorem dX12_sees_28 : decode cX12_sees 28 = .ok (.lconst 0, 1) := by decide +kernel
theorem dX12_sees_29 : decode cX12_sees 29 = .ok (.ldc2_w 228, 3) := by decide +kernel
theorem dX12_sees_32 : decode cX12_sees 32 = .ok (.invokestatic 56, 3) := by decide +kernel
theorem dX12_sees_35 : decode cX12_sees 35 = .ok (.ifCond .eq 10, 3) := by decide +kernel
theorem dX12_sees_38 : decode cX12_sees 38 = .ok (.iload_n 3, 1) := by decide +kernel
theorem dX12_sees_39 : decode cX12_sees 39 = .ok (.invokestatic 197, 3) := by decide +kernel
theorem dX12_sees_42 : decode cX12_sees 42 = .ok (.ifCond .ne 5, 3) := by decide +kernel
theorem dX12_sees_45 : decode cX12_sees 45 = .ok (.iconst (-1), 1) := by decide +kernel
theorem dX12_sees_46 : decode cX12_sees 46 = .ok (.ireturn, 1) := by decide +kernel
theorem dX12_sees_47 : decode cX12_sees 47 = .ok (.aload_n 0, 1) := by decide +kernel
theorem dX12_sees_48 : decode cX12_sees 48 = .ok (.getfield 135, 3) := by decide +kernel
theorem dX12_sees_51 : decode cX12_sees 51 = .ok (.bipush 6, 2) := by decide +kernel
theorem dX12_sees_53 : decode cX12_sees 53 = .ok (.if_icmp .ne 6, 3) := by decide +kernel
theorem dX12_sees_56 : decode cX12_sees 56 = .ok (.bipush (-3), 2) := by decide +kernel
theorem dX12_sees_58 : decode cX12_sees 58 = .ok (.ireturn, 1) := by decide +kernel
theorem dX12_sees_59 : decode cX12_sees 59 = .ok (.aload_n 0, 1) := by decide +kernel
theorem dX12_sees_60 : decode cX12_sees 60 = .ok (.getfield 42, 3) := by decide +kernel
theorem dX12_sees_63 : decode cX12_sees 63 = .ok (.iconst 3, 1) := by decide +kernel
theorem dX12_sees_64 : decode cX12_sees 64 = .ok (.aload_n 0, 1) := by decide +kernel
theorem dX12_sees_65 : decode cX12_sees 65 = .ok (.getfield 135, 3) := by decide +kernel
theorem dX12_sees_68 : decode cX12_sees 68 = .ok (.imul, 1) := by decide +kernel
theorem dX12_sees_69 : decode cX12_sees 69 = .ok (.iload_n 1, 1) := by decide +kernel
theorem dX12_sees_70 : decode cX12_sees 70 = .ok (.iastore, 1) := by decide +kernel
theorem dX12_sees_71 : decode cX12_sees 71 = .ok (.aload_n 0, 1) := by decide +kernel
theorem dX12_sees_72 : decode cX12_sees 72 = .ok (.getfield 42, 3) := by decide +kernel
theorem dX12_sees_75 : decode cX12_sees 75 = .ok (.iconst 3, 1) := by decide +kernel
theorem dX12_sees_76 : decode cX12_sees 76 = .ok (.aload_n 0, 1) := by decide +kernel
theorem dX12_sees_77 : decode cX12_sees 77 = .ok (.getfield 135, 3) := by decide +kernel
theorem dX12_sees_80 : decode cX12_sees 80 = .ok (.imul, 1) := by decide +kernel
theorem dX12_sees_81 : decode cX12_sees 81 = .ok (.iconst 1, 1) := by decide +kernel
theorem dX12_sees_82 : decode cX12_sees 82 = .ok (.iadd, 1) := by decide +kernel
theorem dX12_sees_83 : decode cX12_sees 83 = .ok (.iload_n 2, 1) := by decide +kernel
theorem dX12_sees_84 : decode cX12_sees 84 = .ok (.iastore, 1) := by decide +kernel
theorem dX12_sees_85 : decode cX12_sees 85 = .ok (.aload_n 0, 1) := by decide +kernel
theorem dX12_sees_86 : decode cX12_sees 86 = .ok (.getfield 42, 3) := by decide +kernel
theorem dX12_sees_89 : decode cX12_sees 89 = .ok (.iconst 3, 1) := by decide +kernel
theorem dX12_sees_90 : decode cX12_sees 90 = .ok (.aload_n 0, 1) := by decide +kernel
theorem dX12_sees_91 : decode cX12_sees 91 = .ok (.getfield 135, 3) := by decide +kernel
theorem dX12_sees_94 : decode cX12_sees 94 = .ok (.imul, 1) := by decide +kernel
theorem dX12_sees_95 : decode cX12_sees 95 = .ok (.iconst 2, 1) := by decide +kernel
theorem dX12_sees_96 : decode cX12_sees 96 = .ok (.iadd, 1) := by decide +kernel
theorem dX12_sees_97 : decode cX12_sees 97 = .ok (.iload_n 3, 1) := by decide +kernel
theorem dX12_sees_98 : decode cX12_sees 98 = .ok (.iastore, 1) := by decide +kernel
theorem dX12_sees_99 : decode cX12_sees 99 = .ok (.aload_n 0, 1) := by decide +kernel
theorem dX12_sees_100 : decode cX12_sees 100 = .ok (.dup, 1) := by decide +kernel
theorem dX12_sees_101 : decode cX12_sees 101 = .ok (.getfield 135, 3) := by decide +kernel
theorem dX12_sees_104 : decode cX12_sees 104 = .ok (.iconst 1, 1) := by decide +kernel
theorem dX12_sees_105 : decode cX12_sees 105 = .ok (.iadd, 1) := by decide +kernel
theorem dX12_sees_106 : decode cX12_sees 106 = .ok (.putfield 135, 3) := by decide +kernel
theorem dX12_sees_109 : decode cX12_sees 109 = .ok (.aload_n 0, 1) := by decide +kernel
theorem dX12_sees_110 : decode cX12_sees 110 = .ok (.getfield 135, 3) := by decide +kernel
theorem dX12_sees_113 : decode cX12_sees 113 = .ok (.ireturn, 1) := by decide +kernel
theorem dX12_forget_0 : decode cX12_forget 0 = .ok (.aload_n 0, 1) := by decide +kernel
theorem dX12_forget_1 : decode cX12_forget 1 = .ok (.getfield 135, 3) := by decide +kernel
theorem dX12_forget_4 : decode cX12_forget 4 = .ok (.istore_n 1, 1) := by decide +kernel
theorem dX12_forget_5 : decode cX12_forget 5 = .ok (.aload_n 0, 1) := by decide +kernel
theorem dX12_forget_6 : decode cX12_forget 6 = .ok (.iconst 0, 1) := by decide +kernel
theorem dX12_forget_7 : decode cX12_forget 7 = .ok (.putfield 135, 3) := by decide +kernel
theorem dX12_forget_10 : decode cX12_forget 10 = .ok (.iload_n 1, 1) := by decide +kernel
theorem dX12_forget_11 : decode cX12_forget 11 = .ok (.ireturn, 1) := by decide +kernel
theorem dX12_of_0 : decode cX12_of 0 = .ok (.iload_n 2, 1) := by decide +kernel
theorem dX12_of_1 : decode cX12_of 1 = .ok (.ifCond .ne 12, 3) := by decide +kernel
theorem dX12_of_4 : decode cX12_of 4 = .ok (.aload_n 0, 1) := by decide +kernel
theorem dX12_of_5 : decode cX12_of 5 = .ok (.getfield 19, 3) := by decide +kernel
theorem dX12_of_8 : decode cX12_of 8 = .ok (.iload_n 1, 1) := by decide +kernel
theorem dX12_of_9 : decode cX12_of 9 = .ok (.iaload, 1) := by decide +kernel
theorem dX12_of_10 : decode cX12_of 10 = .ok (.goto 9, 3) := by decide +kernel
theorem dX12_of_13 : decode cX12_of 13 = .ok (.aload_n 0, 1) := by decide +kernel
theorem dX12_of_14 : decode cX12_of 14 = .ok (.getfield 23, 3) := by decide +kernel
theorem dX12_of_17 : decode cX12_of 17 = .ok (.iload_n 1, 1) := by decide +kernel
theorem dX12_of_18 : decode cX12_of 18 = .ok (.iaload, 1) := by decide +kernel
theorem dX12_of_19 : decode cX12_of 19 = .ok (.ireturn, 1) := by decide +kernel
theorem dX12_which_0 : decode cX12_which 0 = .ok (.iconst 0, 1) := by decide +kernel
theorem dX12_which_1 : decode cX12_which 1 = .ok (.istore_n 1, 1) := by decide +kernel
theorem dX12_which_2 : decode cX12_which 2 = .ok (.iconst 0, 1) := by decide +kernel
theorem dX12_which_3 : decode cX12_which 3 = .ok (.istore_n 2, 1) := by decide +kernel
theorem dX12_which_4 : decode cX12_which 4 = .ok (.iload_n 2, 1) := by decide +kernel
theorem dX12_which_5 : decode cX12_which 5 = .ok (.aload_n 0, 1) := by decide +kernel
theorem dX12_which_6 : decode cX12_which 6 = .ok (.getfield 125, 3) := by decide +kernel
theorem dX12_which_9 : decode cX12_which 9 = .ok (.if_icmp .ge 105, 3) := by decide +kernel
theorem dX12_which_12 : decode cX12_which 12 = .ok (.iconst 1, 1) := by decide +kernel
theorem dX12_which_13 : decode cX12_which 13 = .ok (.istore_n 3, 1) := by decide +kernel
theorem dX12_which_14 : decode cX12_which 14 = .ok (.iconst 0, 1) := by decide +kernel
theorem dX12_which_15 : decode cX12_which 15 = .ok (.istore 4, 2) := by decide +kernel
theorem dX12_which_17 : decode cX12_which 17 = .ok (.iload 4, 2) := by decide +kernel
theorem dX12_which_19 : decode cX12_which 19 = .ok (.iconst 3, 1) := by decide +kernel
theorem dX12_which_20 : decode cX12_which 20 = .ok (.aload_n 0, 1) := by decide +kernel
theorem dX12_which_21 : decode cX12_which 21 = .ok (.getfield 135, 3) := by decide +kernel
theorem dX12_which_24 : decode cX12_which 24 = .ok (.imul, 1) := by decide +kernel
theorem dX12_which_25 : decode cX12_which 25 = .ok (.if_icmp .ge 69, 3) := by decide +kernel
theorem dX12_which_28 : decode cX12_which 28 = .ok (.iload_n 3, 1) := by decide +kernel
theorem dX12_which_29 : decode cX12_which 29 = .ok (.ifCond .eq 57, 3) := by decide +kernel
theorem dX12_which_32 : decode cX12_which 32 = .ok (.aload_n 0, 1) := by decide +kernel
theorem dX12_which_33 : decode cX12_which 33 = .ok (.iload_n 2, 1) := by decide +kernel
theorem dX12_which_34 : decode cX12_which 34 = .ok (.aload_n 0, 1) := by decide +kernel
theorem dX12_which_35 : decode cX12_which 35 = .ok (.getfield 42, 3) := by decide +kernel
theorem dX12_which_38 : decode cX12_which 38 = .ok (.iload 4, 2) := by decide +kernel
theorem dX12_which_40 : decode cX12_which 40 = .ok (.iaload, 1) := by decide +kernel
theorem dX12_which_41 : decode cX12_which 41 = .ok (.invokevirtual 230, 3) := by decide +kernel
theorem dX12_which_44 : decode cX12_which 44 = .ok (.aload_n 0, 1) := by decide +kernel
theorem dX12_which_45 : decode cX12_which 45 = .ok (.getfield 42, 3) := by decide +kernel
theorem dX12_which_48 : decode cX12_which 48 = .ok (.iload 4, 2) := by decide +kernel
theorem dX12_which_50 : decode cX12_which 50 = .ok (.iconst 1, 1) := by decide +kernel
theorem dX12_which_51 : decode cX12_which 51 = .ok (.iadd, 1) := by decide +kernel
theorem dX12_which_52 : decode cX12_which 52 = .ok (.iaload, 1) := by decide +kernel
theorem dX12_which_53 : decode cX12_which 53 = .ok (.if_icmp .gt 7, 3) := by decide +kernel
theorem dX12_which_56 : decode cX12_which 56 = .ok (.iconst 1, 1) := by decide +kernel
theorem dX12_which_57 : decode cX12_which 57 = .ok (.goto 4, 3) := by decide +kernel
theorem dX12_which_60 : decode cX12_which 60 = .ok (.iconst 0, 1) := by decide +kernel
theorem dX12_which_61 : decode cX12_which 61 = .ok (.aload_n 0, 1) := by decide +kernel
theorem dX12_which_62 : decode cX12_which 62 = .ok (.getfield 42, 3) := by decide +kernel
theorem dX12_which_65 : decode cX12_which 65 = .ok (.iload 4, 2) := by decide +kernel
theorem dX12_which_67 : decode cX12_which 67 = .ok (.iconst 2, 1) := by decide +kernel
theorem dX12_which_68 : decode cX12_which 68 = .ok (.iadd, 1) := by decide +kernel
theorem dX12_which_69 : decode cX12_which 69 = .ok (.iaload, 1) := by decide +kernel
theorem dX12_which_70 : decode cX12_which 70 = .ok (.iconst 1, 1) := by decide +kernel
theorem dX12_which_71 : decode cX12_which 71 = .ok (.if_icmp .ne 7, 3) := by decide +kernel
theorem dX12_which_74 : decode cX12_which 74 = .ok (.iconst 1, 1) := by decide +kernel
theorem dX12_which_75 : decode cX12_which 75 = .ok (.goto 4, 3) := by decide +kernel
theorem dX12_which_78 : decode cX12_which 78 = .ok (.iconst 0, 1) := by decide +kernel
theorem dX12_which_79 : decode cX12_which 79 = .ok (.if_icmp .ne 7, 3) := by decide +kernel
theorem dX12_which_82 : decode cX12_which 82 = .ok (.iconst 1, 1) := by decide +kernel
theorem dX12_which_83 : decode cX12_which 83 = .ok (.goto 4, 3) := by decide +kernel
theorem dX12_which_86 : decode cX12_which 86 = .ok (.iconst 0, 1) := by decide +kernel
theorem dX12_which_87 : decode cX12_which 87 = .ok (.istore_n 3, 1) := by decide +kernel
theorem dX12_which_88 : decode cX12_which 88 = .ok (.iinc 4 3, 3) := by decide +kernel
theorem dX12_which_91 : decode cX12_which 91 = .ok (.goto (-74), 3) := by decide +kernel
theorem dX12_which_94 : decode cX12_which 94 = .ok (.iload_n 1, 1) := by decide +kernel
theorem dX12_which_95 : decode cX12_which 95 = .ok (.iload_n 3, 1) := by decide +kernel
theorem dX12_which_96 : decode cX12_which 96 = .ok (.ifCond .eq 9, 3) := by decide +kernel
theorem dX12_which_99 : decode cX12_which 99 = .ok (.iconst 1, 1) := by decide +kernel
theorem dX12_which_100 : decode cX12_which 100 = .ok (.iload_n 2, 1) := by decide +kernel
theorem dX12_which_101 : decode cX12_which 101 = .ok (.ishl, 1) := by decide +kernel
theorem dX12_which_102 : decode cX12_which 102 = .ok (.goto 4, 3) := by decide +kernel
theorem dX12_which_105 : decode cX12_which 105 = .ok (.iconst 0, 1) := by decide +kernel
theorem dX12_which_106 : decode cX12_which 106 = .ok (.ior, 1) := by decide +kernel
theorem dX12_which_107 : decode cX12_which 107 = .ok (.istore_n 1, 1) := by decide +kernel
theorem dX12_which_108 : decode cX12_which 108 = .ok (.iinc 2 1, 3) := by decide +kernel
theorem dX12_which_111 : decode cX12_which 111 = .ok (.goto (-107), 3) := by decide +kernel
theorem dX12_which_114 : decode cX12_which 114 = .ok (.iload_n 1, 1) := by decide +kernel
theorem dX12_which_115 : decode cX12_which 115 = .ok (.ireturn, 1) := by decide +kernel
theorem dX12_look_0 : decode cX12_look 0 = .ok (.iload_n 1, 1) := by decide +kernel
theorem dX12_look_1 : decode cX12_look 1 = .ok (.invokestatic 197, 3) := by decide +kernel
theorem dX12_look_4 : decode cX12_look 4 = .ok (.ifCond .ne 5, 3) := by decide +kernel
theorem dX12_look_7 : decode cX12_look 7 = .ok (.iconst (-1), 1) := by decide +kernel
theorem dX12_look_8 : decode cX12_look 8 = .ok (.ireturn, 1) := by decide +kernel
theorem dX12_look_9 : decode cX12_look 9 = .ok (.aload_n 0, 1) := by decide +kernel
theorem dX12_look_10 : decode cX12_look 10 = .ok (.invokevirtual 234, 3) := by decide +kernel
theorem dX12_look_13 : decode cX12_look 13 = .ok (.istore_n 2, 1) := by decide +kernel
theorem dX12_look_14 : decode cX12_look 14 = .ok (.iload_n 2, 1) := by decide +kernel
theorem dX12_look_15 : decode cX12_look 15 = .ok (.invokestatic 161, 3) := by decide +kernel
theorem dX12_look_18 : decode cX12_look 18 = .ok (.istore_n 3, 1) := by decide +kernel
theorem dX12_look_19 : decode cX12_look 19 = .ok (.bipush 7, 2) := by decide +kernel
theorem dX12_look_21 : decode cX12_look 21 = .ok (.istore 4, 2) := by decide +kernel
theorem dX12_look_23 : decode cX12_look 23 = .ok (.bipush (-9), 2) := by decide +kernel
theorem dX12_look_25 : decode cX12_look 25 = .ok (.istore 5, 2) := by decide +kernel
theorem dX12_look_27 : decode cX12_look 27 = .ok (.iload_n 1, 1) := by decide +kernel
theorem dX12_look_28 : decode cX12_look 28 = .ok (.ifCond .ne 7, 3) := by decide +kernel
theorem dX12_look_31 : decode cX12_look 31 = .ok (.iconst 1, 1) := by decide +kernel
theorem dX12_look_32 : decode cX12_look 32 = .ok (.goto 4, 3) := by decide +kernel
theorem dX12_look_35 : decode cX12_look 35 = .ok (.iconst 0, 1) := by decide +kernel
theorem dX12_look_36 : decode cX12_look 36 = .ok (.istore 6, 2) := by decide +kernel
theorem dX12_look_38 : decode cX12_look 38 = .ok (.iload 6, 2) := by decide +kernel
theorem dX12_look_40 : decode cX12_look 40 = .ok (.iload_n 1, 1) := by decide +kernel
theorem dX12_look_41 : decode cX12_look 41 = .ok (.ifCond .ne 8, 3) := by decide +kernel
theorem dX12_look_44 : decode cX12_look 44 = .ok (.bipush 6, 2) := by decide +kernel
theorem dX12_look_46 : decode cX12_look 46 = .ok (.goto 5, 3) := by decide +kernel
theorem dX12_look_49 : decode cX12_look 49 = .ok (.bipush 10, 2) := by decide +kernel
theorem dX12_look_51 : decode cX12_look 51 = .ok (.if_icmp .ge 118, 3) := by decide +kernel
theorem dX12_look_54 : decode cX12_look 54 = .ok (.iload_n 3, 1) := by decide +kernel
theorem dX12_look_55 : decode cX12_look 55 = .ok (.iconst 1, 1) := by decide +kernel
theorem dX12_look_56 : decode cX12_look 56 = .ok (.if_icmp .le 113, 3) := by decide +kernel
theorem dX12_look_59 : decode cX12_look 59 = .ok (.iconst 0, 1) := by decide +kernel
theorem dX12_look_60 : decode cX12_look 60 = .ok (.istore 7, 2) := by decide +kernel
theorem dX12_look_62 : decode cX12_look 62 = .ok (.iconst 0, 1) := by decide +kernel
theorem dX12_look_63 : decode cX12_look 63 = .ok (.istore 8, 2) := by decide +kernel
theorem dX12_look_65 : decode cX12_look 65 = .ok (.iload 8, 2) := by decide +kernel
theorem dX12_look_67 : decode cX12_look 67 = .ok (.aload_n 0, 1) := by decide +kernel
theorem dX12_look_68 : decode cX12_look 68 = .ok (.getfield 125, 3) := by decide +kernel
theorem dX12_look_71 : decode cX12_look 71 = .ok (.if_icmp .ge 40, 3) := by decide +kernel
theorem dX12_look_74 : decode cX12_look 74 = .ok (.iload 7, 2) := by decide +kernel
theorem dX12_look_76 : decode cX12_look 76 = .ok (.iload_n 2, 1) := by decide +kernel
theorem dX12_look_77 : decode cX12_look 77 = .ok (.iload 8, 2) := by decide +kernel
theorem dX12_look_79 : decode cX12_look 79 = .ok (.invokestatic 142, 3) := by decide +kernel
theorem dX12_look_82 : decode cX12_look 82 = .ok (.ifCond .eq 19, 3) := by decide +kernel
theorem dX12_look_85 : decode cX12_look 85 = .ok (.aload_n 0, 1) := by decide +kernel
theorem dX12_look_86 : decode cX12_look 86 = .ok (.iload 8, 2) := by decide +kernel
theorem dX12_look_88 : decode cX12_look 88 = .ok (.iload_n 1, 1) := by decide +kernel
theorem dX12_look_89 : decode cX12_look 89 = .ok (.invokevirtual 230, 3) := by decide +kernel
theorem dX12_look_92 : decode cX12_look 92 = .ok (.iload 6, 2) := by decide +kernel
theorem dX12_look_94 : decode cX12_look 94 = .ok (.if_icmp .gt 7, 3) := by decide +kernel
theorem dX12_look_97 : decode cX12_look 97 = .ok (.iconst 1, 1) := by decide +kernel
theorem dX12_look_98 : decode cX12_look 98 = .ok (.goto 4, 3) := by decide +kernel
theorem dX12_look_101 : decode cX12_look 101 = .ok (.iconst 0, 1) := by decide +kernel
theorem dX12_look_102 : decode cX12_look 102 = .ok (.iadd, 1) := by decide +kernel
theorem dX12_look_103 : decode cX12_look 103 = .ok (.istore 7, 2) := by decide +kernel
theorem dX12_look_105 : decode cX12_look 105 = .ok (.iinc 8 1, 3) := by decide +kernel
theorem dX12_look_108 : decode cX12_look 108 = .ok (.goto (-43), 3) := by decide +kernel
theorem dX12_look_111 : decode cX12_look 111 = .ok (.iload 7, 2) := by decide +kernel
theorem dX12_look_113 : decode cX12_look 113 = .ok (.iload_n 3, 1) := by decide +kernel
theorem dX12_look_114 : decode cX12_look 114 = .ok (.iload 7, 2) := by decide +kernel
theorem dX12_look_116 : decode cX12_look 116 = .ok (.isub, 1) := by decide +kernel
theorem dX12_look_117 : decode cX12_look 117 = .ok (.if_icmp .le 8, 3) := by decide +kernel
theorem dX12_look_120 : decode cX12_look 120 = .ok (.iload 7, 2) := by decide +kernel
theorem dX12_look_122 : decode cX12_look 122 = .ok (.goto 7, 3) := by decide +kernel
theorem dX12_look_125 : decode cX12_look 125 = .ok (.iload_n 3, 1) := by decide +kernel
theorem dX12_look_126 : decode cX12_look 126 = .ok (.iload 7, 2) := by decide +kernel
theorem dX12_look_128 : decode cX12_look 128 = .ok (.isub, 1) := by decide +kernel
theorem dX12_look_129 : decode cX12_look 129 = .ok (.istore 8, 2) := by decide +kernel
theorem dX12_look_131 : decode cX12_look 131 = .ok (.iload 8, 2) := by decide +kernel
theorem dX12_look_133 : decode cX12_look 133 = .ok (.iload 4, 2) := by decide +kernel
theorem dX12_look_135 : decode cX12_look 135 = .ok (.if_icmp .ge 8, 3) := by decide +kernel
theorem dX12_look_138 : decode cX12_look 138 = .ok (.iload 6, 2) := by decide +kernel
theorem dX12_look_140 : decode cX12_look 140 = .ok (.goto 5, 3) := by decide +kernel
theorem dX12_look_143 : decode cX12_look 143 = .ok (.iload 5, 2) := by decide +kernel
theorem dX12_look_145 : decode cX12_look 145 = .ok (.istore 5, 2) := by decide +kernel
theorem dX12_look_147 : decode cX12_look 147 = .ok (.iload 8, 2) := by decide +kernel
theorem dX12_look_149 : decode cX12_look 149 = .ok (.iload 4, 2) := by decide +kernel
theorem dX12_look_151 : decode cX12_look 151 = .ok (.if_icmp .ge 8, 3) := by decide +kernel
theorem dX12_look_154 : decode cX12_look 154 = .ok (.iload 8, 2) := by decide +kernel
theorem dX12_look_156 : decode cX12_look 156 = .ok (.goto 5, 3) := by decide +kernel
theorem dX12_look_159 : decode cX12_look 159 = .ok (.iload 4, 2) := by decide +kernel
theorem dX12_look_161 : decode cX12_look 161 = .ok (.istore 4, 2) := by decide +kernel
theorem dX12_look_163 : decode cX12_look 163 = .ok (.iinc 6 1, 3) := by decide +kernel
theorem dX12_look_166 : decode cX12_look 166 = .ok (.goto (-128), 3) := by decide +kernel
theorem dX12_look_169 : decode cX12_look 169 = .ok (.iload 5, 2) := by decide +kernel
theorem dX12_look_171 : decode cX12_look 171 = .ok (.ireturn, 1) := by decide +kernel
theorem dX12_asDoor_0 : decode cX12_asDoor 0 = .ok (.aload_n 0, 1) := by decide +kernel
theorem dX12_asDoor_1 : decode cX12_asDoor 1 = .ok (.dup, 1) := by decide +kernel
theorem dX12_asDoor_2 : decode cX12_asDoor 2 = .ok (.getfield 237, 3) := by decide +kernel
theorem dX12_asDoor_5 : decode cX12_asDoor 5 = .ok (.lconst 1, 1) := by decide +kernel
