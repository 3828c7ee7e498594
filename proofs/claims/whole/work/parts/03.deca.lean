theorem dX0_init_0 : decode cX0_init 0 = .ok (.aload_n 0, 1) := by decide +kernel
theorem dX0_init_1 : decode cX0_init 1 = .ok (.invokespecial 1, 3) := by decide +kernel
theorem dX0_init_4 : decode cX0_init 4 = .ok (.return_, 1) := by decide +kernel
theorem dX0_worth_0 : decode cX0_worth 0 = .ok (.aload_n 0, 1) := by decide +kernel
theorem dX0_worth_1 : decode cX0_worth 1 = .ok (.dup, 1) := by decide +kernel
theorem dX0_worth_2 : decode cX0_worth 2 = .ok (.getfield 7, 3) := by decide +kernel
theorem dX0_worth_5 : decode cX0_worth 5 = .ok (.ldc2_w 13, 3) := by decide +kernel
theorem dX0_worth_8 : decode cX0_worth 8 = .ok (.ladd, 1) := by decide +kernel
theorem dX0_worth_9 : decode cX0_worth 9 = .ok (.putfield 7, 3) := by decide +kernel
theorem dX0_worth_12 : decode cX0_worth 12 = .ok (.aload_n 0, 1) := by decide +kernel
theorem dX0_worth_13 : decode cX0_worth 13 = .ok (.aload_n 1, 1) := by decide +kernel
theorem dX0_worth_14 : decode cX0_worth 14 = .ok (.iload_n 2, 1) := by decide +kernel
theorem dX0_worth_15 : decode cX0_worth 15 = .ok (.invokespecial 15, 3) := by decide +kernel
theorem dX0_worth_18 : decode cX0_worth 18 = .ok (.aload_n 1, 1) := by decide +kernel
theorem dX0_worth_19 : decode cX0_worth 19 = .ok (.iload_n 2, 1) := by decide +kernel
theorem dX0_worth_20 : decode cX0_worth 20 = .ok (.invokevirtual 19, 3) := by decide +kernel
theorem dX0_worth_23 : decode cX0_worth 23 = .ok (.iadd, 1) := by decide +kernel
theorem dX0_worth_24 : decode cX0_worth 24 = .ok (.ireturn, 1) := by decide +kernel
theorem dX1_init_0 : decode cX1_init 0 = .ok (.aload_n 0, 1) := by decide +kernel
theorem dX1_init_1 : decode cX1_init 1 = .ok (.invokespecial 1, 3) := by decide +kernel
theorem dX1_init_4 : decode cX1_init 4 = .ok (.return_, 1) := by decide +kernel
theorem dX1_worth_0 : decode cX1_worth 0 = .ok (.aload_n 0, 1) := by decide +kernel
theorem dX1_worth_1 : decode cX1_worth 1 = .ok (.dup, 1) := by decide +kernel
theorem dX1_worth_2 : decode cX1_worth 2 = .ok (.getfield 7, 3) := by decide +kernel
theorem dX1_worth_5 : decode cX1_worth 5 = .ok (.ldc2_w 13, 3) := by decide +kernel
theorem dX1_worth_8 : decode cX1_worth 8 = .ok (.ladd, 1) := by decide +kernel
theorem dX1_worth_9 : decode cX1_worth 9 = .ok (.putfield 7, 3) := by decide +kernel
theorem dX1_worth_12 : decode cX1_worth 12 = .ok (.iconst 2, 1) := by decide +kernel
theorem dX1_worth_13 : decode cX1_worth 13 = .ok (.aload_n 0, 1) := by decide +kernel
theorem dX1_worth_14 : decode cX1_worth 14 = .ok (.aload_n 1, 1) := by decide +kernel
theorem dX1_worth_15 : decode cX1_worth 15 = .ok (.iload_n 2, 1) := by decide +kernel
theorem dX1_worth_16 : decode cX1_worth 16 = .ok (.invokespecial 15, 3) := by decide +kernel
theorem dX1_worth_19 : decode cX1_worth 19 = .ok (.imul, 1) := by decide +kernel
theorem dX1_worth_20 : decode cX1_worth 20 = .ok (.ireturn, 1) := by decide +kernel
theorem dX2_init_0 : decode cX2_init 0 = .ok (.aload_n 0, 1) := by decide +kernel
theorem dX2_init_1 : decode cX2_init 1 = .ok (.invokespecial 1, 3) := by decide +kernel
theorem dX2_init_4 : decode cX2_init 4 = .ok (.return_, 1) := by decide +kernel
theorem dX2_worth_0 : decode cX2_worth 0 = .ok (.aload_n 0, 1) := by decide +kernel
theorem dX2_worth_1 : decode cX2_worth 1 = .ok (.dup, 1) := by decide +kernel
theorem dX2_worth_2 : decode cX2_worth 2 = .ok (.getfield 7, 3) := by decide +kernel
theorem dX2_worth_5 : decode cX2_worth 5 = .ok (.lconst 1, 1) := by decide +kernel
theorem dX2_worth_6 : decode cX2_worth 6 = .ok (.ladd, 1) := by decide +kernel
theorem dX2_worth_7 : decode cX2_worth 7 = .ok (.putfield 7, 3) := by decide +kernel
theorem dX2_worth_10 : decode cX2_worth 10 = .ok (.aload_n 1, 1) := by decide +kernel
theorem dX2_worth_11 : decode cX2_worth 11 = .ok (.iload_n 2, 1) := by decide +kernel
theorem dX2_worth_12 : decode cX2_worth 12 = .ok (.invokevirtual 13, 3) := by decide +kernel
theorem dX2_worth_15 : decode cX2_worth 15 = .ok (.ireturn, 1) := by decide +kernel
theorem dX3_init_0 : decode cX3_init 0 = .ok (.aload_n 0, 1) := by decide +kernel
theorem dX3_init_1 : decode cX3_init 1 = .ok (.invokespecial 1, 3) := by decide +kernel
theorem dX3_init_4 : decode cX3_init 4 = .ok (.return_, 1) := by decide +kernel
theorem dX3_worth_0 : decode cX3_worth 0 = .ok (.aload_n 0, 1) := by decide +kernel
theorem dX3_worth_1 : decode cX3_worth 1 = .ok (.dup, 1) := by decide +kernel
theorem dX3_worth_2 : decode cX3_worth 2 = .ok (.getfield 7, 3) := by decide +kernel
theorem dX3_worth_5 : decode cX3_worth 5 = .ok (.ldc2_w 13, 3) := by decide +kernel
theorem dX3_worth_8 : decode cX3_worth 8 = .ok (.ladd, 1) := by decide +kernel
theorem dX3_worth_9 : decode cX3_worth 9 = .ok (.putfield 7, 3) := by decide +kernel
theorem dX3_worth_12 : decode cX3_worth 12 = .ok (.aload_n 0, 1) := by decide +kernel
theorem dX3_worth_13 : decode cX3_worth 13 = .ok (.aload_n 1, 1) := by decide +kernel
theorem dX3_worth_14 : decode cX3_worth 14 = .ok (.iload_n 2, 1) := by decide +kernel
theorem dX3_worth_15 : decode cX3_worth 15 = .ok (.invokespecial 15, 3) := by decide +kernel
theorem dX3_worth_18 : decode cX3_worth 18 = .ok (.iload_n 2, 1) := by decide +kernel
theorem dX3_worth_19 : decode cX3_worth 19 = .ok (.iadd, 1) := by decide +kernel
theorem dX3_worth_20 : decode cX3_worth 20 = .ok (.ireturn, 1) := by decide +kernel
theorem dX4_init_0 : decode cX4_init 0 = .ok (.aload_n 0, 1) := by decide +kernel
theorem dX4_init_1 : decode cX4_init 1 = .ok (.invokespecial 3, 3) := by decide +kernel
theorem dX4_init_4 : decode cX4_init 4 = .ok (.return_, 1) := by decide +kernel
theorem dX4_worth_0 : decode cX4_worth 0 = .ok (.aload_n 0, 1) := by decide +kernel
theorem dX4_worth_1 : decode cX4_worth 1 = .ok (.dup, 1) := by decide +kernel
theorem dX4_worth_2 : decode cX4_worth 2 = .ok (.getfield 9, 3) := by decide +kernel
theorem dX4_worth_5 : decode cX4_worth 5 = .ok (.ldc2_w 15, 3) := by decide +kernel
theorem dX4_worth_8 : decode cX4_worth 8 = .ok (.ladd, 1) := by decide +kernel
theorem dX4_worth_9 : decode cX4_worth 9 = .ok (.putfield 9, 3) := by decide +kernel
theorem dX4_worth_12 : decode cX4_worth 12 = .ok (.aload_n 0, 1) := by decide +kernel
theorem dX4_worth_13 : decode cX4_worth 13 = .ok (.aload_n 1, 1) := by decide +kernel
theorem dX4_worth_14 : decode cX4_worth 14 = .ok (.iload_n 2, 1) := by decide +kernel
theorem dX4_worth_15 : decode cX4_worth 15 = .ok (.invokespecial 17, 3) := by decide +kernel
theorem dX4_worth_18 : decode cX4_worth 18 = .ok (.aload_n 1, 1) := by decide +kernel
theorem dX4_worth_19 : decode cX4_worth 19 = .ok (.iconst 0, 1) := by decide +kernel
theorem dX4_worth_20 : decode cX4_worth 20 = .ok (.invokevirtual 21, 3) := by decide +kernel
theorem dX4_worth_23 : decode cX4_worth 23 = .ok (.isub, 1) := by decide +kernel
theorem dX4_worth_24 : decode cX4_worth 24 = .ok (.ireturn, 1) := by decide +kernel
theorem dX5_init_0 : decode cX5_init 0 = .ok (.aload_n 0, 1) := by decide +kernel
theorem dX5_init_1 : decode cX5_init 1 = .ok (.invokespecial 3, 3) := by decide +kernel
theorem dX5_init_4 : decode cX5_init 4 = .ok (.aload_n 0, 1) := by decide +kernel
theorem dX5_init_5 : decode cX5_init 5 = .ok (.bipush 9, 2) := by decide +kernel
theorem dX5_init_7 : decode cX5_init 7 = .ok (.newarray .int, 2) := by decide +kernel
theorem dX5_init_9 : decode cX5_init 9 = .ok (.putfield 9, 3) := by decide +kernel
theorem dX5_init_12 : decode cX5_init 12 = .ok (.aload_n 0, 1) := by decide +kernel
theorem dX5_init_13 : decode cX5_init 13 = .ok (.bipush 9, 2) := by decide +kernel
theorem dX5_init_15 : decode cX5_init 15 = .ok (.newarray .int, 2) := by decide +kernel
theorem dX5_init_17 : decode cX5_init 17 = .ok (.putfield 15, 3) := by decide +kernel
theorem dX5_init_20 : decode cX5_init 20 = .ok (.aload_n 0, 1) := by decide +kernel
theorem dX5_init_21 : decode cX5_init 21 = .ok (.bipush 9, 2) := by decide +kernel
theorem dX5_init_23 : decode cX5_init 23 = .ok (.newarray .int, 2) := by decide +kernel
theorem dX5_init_25 : decode cX5_init 25 = .ok (.putfield 18, 3) := by decide +kernel
theorem dX5_init_28 : decode cX5_init 28 = .ok (.aload_n 0, 1) := by decide +kernel
theorem dX5_init_29 : decode cX5_init 29 = .ok (.bipush 9, 2) := by decide +kernel
theorem dX5_init_31 : decode cX5_init 31 = .ok (.newarray .int, 2) := by decide +kernel
theorem dX5_init_33 : decode cX5_init 33 = .ok (.putfield 21, 3) := by decide +kernel
theorem dX5_init_36 : decode cX5_init 36 = .ok (.aload_n 0, 1) := by decide +kernel
theorem dX5_init_37 : decode cX5_init 37 = .ok (.bipush 9, 2) := by decide +kernel
theorem dX5_init_39 : decode cX5_init 39 = .ok (.newarray .int, 2) := by decide +kernel
theorem dX5_init_41 : decode cX5_init 41 = .ok (.putfield 24, 3) := by decide +kernel
theorem dX5_init_44 : decode cX5_init 44 = .ok (.aload_n 0, 1) := by decide +kernel
theorem dX5_init_45 : decode cX5_init 45 = .ok (.aload_n 1, 1) := by decide +kernel
theorem dX5_init_46 : decode cX5_init 46 = .ok (.putfield 27, 3) := by decide +kernel
theorem dX5_init_49 : decode cX5_init 49 = .ok (.return_, 1) := by decide +kernel
theorem dX5_empty_0 : decode cX5_empty 0 = .ok (.aload_n 0, 1) := by decide +kernel
theorem dX5_empty_1 : decode cX5_empty 1 = .ok (.iconst 0, 1) := by decide +kernel
theorem dX5_empty_2 : decode cX5_empty 2 = .ok (.putfield 31, 3) := by decide +kernel
theorem dX5_empty_5 : decode cX5_empty 5 = .ok (.aload_n 0, 1) := by decide +kernel
theorem dX5_empty_6 : decode cX5_empty 6 = .ok (.iconst 0, 1) := by decide +kernel
theorem dX5_empty_7 : decode cX5_empty 7 = .ok (.putfield 35, 3) := by decide +kernel
theorem dX5_empty_10 : decode cX5_empty 10 = .ok (.return_, 1) := by decide +kernel
theorem dX5_copy_0 : decode cX5_copy 0 = .ok (.aload_n 0, 1) := by decide +kernel
theorem dX5_copy_1 : decode cX5_copy 1 = .ok (.aload_n 1, 1) := by decide +kernel
theorem dX5_copy_2 : decode cX5_copy 2 = .ok (.getfield 31, 3) := by decide +kernel
theorem dX5_copy_5 : decode cX5_copy 5 = .ok (.putfield 31, 3) := by decide +kernel
theorem dX5_copy_8 : decode cX5_copy 8 = .ok (.aload_n 0, 1) := by decide +kernel
theorem dX5_copy_9 : decode cX5_copy 9 = .ok (.aload_n 1, 1) := by decide +kernel
theorem dX5_copy_10 : decode cX5_copy 10 = .ok (.getfield 35, 3) := by decide +kernel
theorem dX5_copy_13 : decode cX5_copy 13 = .ok (.putfield 35, 3) := by decide +kernel
theorem dX5_copy_16 : decode cX5_copy 16 = .ok (.aload_n 1, 1) := by decide +kernel
theorem dX5_copy_17 : decode cX5_copy 17 = .ok (.getfield 9, 3) := by decide +kernel
theorem dX5_copy_20 : decode cX5_copy 20 = .ok (.iconst 0, 1) := by decide +kernel
theorem dX5_copy_21 : decode cX5_copy 21 = .ok (.aload_n 0, 1) := by decide +kernel
theorem dX5_copy_22 : decode cX5_copy 22 = .ok (.getfield 9, 3) := by decide +kernel
theorem dX5_copy_25 : decode cX5_copy 25 = .ok (.iconst 0, 1) := by decide +kernel
theorem dX5_copy_26 : decode cX5_copy 26 = .ok (.bipush 9, 2) := by decide +kernel
theorem dX5_copy_28 : decode cX5_copy 28 = .ok (.invokestatic 38, 3) := by decide +kernel
theorem dX5_copy_31 : decode cX5_copy 31 = .ok (.aload_n 1, 1) := by decide +kernel
theorem dX5_copy_32 : decode cX5_copy 32 = .ok (.getfield 15, 3) := by decide +kernel
theorem dX5_copy_35 : decode cX5_copy 35 = .ok (.iconst 0, 1) := by decide +kernel
theorem dX5_copy_36 : decode cX5_copy 36 = .ok (.aload_n 0, 1) := by decide +kernel
theorem dX5_copy_37 : decode cX5_copy 37 = .ok (.getfield 15, 3) := by decide +kernel
theorem dX5_copy_40 : decode cX5_copy 40 = .ok (.iconst 0, 1) := by decide +kernel
theorem dX5_copy_41 : decode cX5_copy 41 = .ok (.bipush 9, 2) := by decide +kernel
theorem dX5_copy_43 : decode cX5_copy 43 = .ok (.invokestatic 38, 3) := by decide +kernel
theorem dX5_copy_46 : decode cX5_copy 46 = .ok (.aload_n 1, 1) := by decide +kernel
theorem dX5_copy_47 : decode cX5_copy 47 = .ok (.getfield 18, 3) := by decide +kernel
theorem dX5_copy_50 : decode cX5_copy 50 = .ok (.iconst 0, 1) := by decide +kernel
theorem dX5_copy_51 : decode cX5_copy 51 = .ok (.aload_n 0, 1) := by decide +kernel
theorem dX5_copy_52 : decode cX5_copy 52 = .ok (.getfield 18, 3) := by decide +kernel
theorem dX5_copy_55 : decode cX5_copy 55 = .ok (.iconst 0, 1) := by decide +kernel
theorem dX5_copy_56 : decode cX5_copy 56 = .ok (.bipush 9, 2) := by decide +kernel
theorem dX5_copy_58 : decode cX5_copy 58 = .ok (.invokestatic 38, 3) := by decide +kernel
theorem dX5_copy_61 : decode cX5_copy 61 = .ok (.aload_n 1, 1) := by decide +kernel
theorem dX5_copy_62 : decode cX5_copy 62 = .ok (.getfield 21, 3) := by decide +kernel
theorem dX5_copy_65 : decode cX5_copy 65 = .ok (.iconst 0, 1) := by decide +kernel
theorem dX5_copy_66 : decode cX5_copy 66 = .ok (.aload_n 0, 1) := by decide +kernel
theorem dX5_copy_67 : decode cX5_copy 67 = .ok (.getfield 21, 3) := by decide +kernel
theorem dX5_copy_70 : decode cX5_copy 70 = .ok (.iconst 0, 1) := by decide +kernel
theorem dX5_copy_71 : decode cX5_copy 71 = .ok (.bipush 9, 2) := by decide +kernel
theorem dX5_copy_73 : decode cX5_copy 73 = .ok (.invokestatic 38, 3) := by decide +kernel
theorem dX5_copy_76 : decode cX5_copy 76 = .ok (.aload_n 1, 1) := by decide +kernel
theorem dX5_copy_77 : decode cX5_copy 77 = .ok (.getfield 24, 3) := by decide +kernel
theorem dX5_copy_80 : decode cX5_copy 80 = .ok (.iconst 0, 1) := by decide +kernel
theorem dX5_copy_81 : decode cX5_copy 81 = .ok (.aload_n 0, 1) := by decide +kernel
theorem dX5_copy_82 : decode cX5_copy 82 = .ok (.getfield 24, 3) := by decide +kernel
theorem dX5_copy_85 : decode cX5_copy 85 = .ok (.iconst 0, 1) := by decide +kernel
theorem dX5_copy_86 : decode cX5_copy 86 = .ok (.bipush 9, 2) := by decide +kernel
theorem dX5_copy_88 : decode cX5_copy 88 = .ok (.invokestatic 38, 3) := by decide +kernel
theorem dX5_copy_91 : decode cX5_copy 91 = .ok (.return_, 1) := by decide +kernel
theorem dX5_hasGoer_0 : decode cX5_hasGoer 0 = .ok (.iload_n 1, 1) := by decide +kernel
theorem dX5_hasGoer_1 : decode cX5_hasGoer 1 = .ok (.ifCond .lt 15, 3) := by decide +kernel
theorem dX5_hasGoer_4 : decode cX5_hasGoer 4 = .ok (.iload_n 1, 1) := by decide +kernel
theorem dX5_hasGoer_5 : decode cX5_hasGoer 5 = .ok (.aload_n 0, 1) := by decide +kernel
theorem dX5_hasGoer_6 : decode cX5_hasGoer 6 = .ok (.getfield 35, 3) := by decide +kernel
theorem dX5_hasGoer_9 : decode cX5_hasGoer 9 = .ok (.if_icmp .ge 7, 3) := by decide +kernel
theorem dX5_hasGoer_12 : decode cX5_hasGoer 12 = .ok (.iconst 1, 1) := by decide +kernel
theorem dX5_hasGoer_13 : decode cX5_hasGoer 13 = .ok (.goto 4, 3) := by decide +kernel
theorem dX5_hasGoer_16 : decode cX5_hasGoer 16 = .ok (.iconst 0, 1) := by decide +kernel
theorem dX5_hasGoer_17 : decode cX5_hasGoer 17 = .ok (.ireturn, 1) := by decide +kernel
theorem dX5_bulkOf_0 : decode cX5_bulkOf 0 = .ok (.aload_n 0, 1) := by decide +kernel
theorem dX5_bulkOf_1 : decode cX5_bulkOf 1 = .ok (.iload_n 1, 1) := by decide +kernel
theorem dX5_bulkOf_2 : decode cX5_bulkOf 2 = .ok (.invokevirtual 44, 3) := by decide +kernel
theorem dX5_bulkOf_5 : decode cX5_bulkOf 5 = .ok (.ifCond .eq 19, 3) := by decide +kernel
theorem dX5_bulkOf_8 : decode cX5_bulkOf 8 = .ok (.aload_n 0, 1) := by decide +kernel
theorem dX5_bulkOf_9 : decode cX5_bulkOf 9 = .ok (.getfield 27, 3) := by decide +kernel
theorem dX5_bulkOf_12 : decode cX5_bulkOf 12 = .ok (.aload_n 0, 1) := by decide +kernel
theorem dX5_bulkOf_13 : decode cX5_bulkOf 13 = .ok (.getfield 9, 3) := by decide +kernel
theorem dX5_bulkOf_16 : decode cX5_bulkOf 16 = .ok (.iload_n 1, 1) := by decide +kernel
theorem dX5_bulkOf_17 : decode cX5_bulkOf 17 = .ok (.iaload, 1) := by decide +kernel
theorem dX5_bulkOf_18 : decode cX5_bulkOf 18 = .ok (.invokevirtual 48, 3) := by decide +kernel
theorem dX5_bulkOf_21 : decode cX5_bulkOf 21 = .ok (.goto 4, 3) := by decide +kernel
theorem dX5_bulkOf_24 : decode cX5_bulkOf 24 = .ok (.iconst 0, 1) := by decide +kernel
theorem dX5_bulkOf_25 : decode cX5_bulkOf 25 = .ok (.ireturn, 1) := by decide +kernel
theorem dX5_pushOf_0 : decode cX5_pushOf 0 = .ok (.aload_n 0, 1) := by decide +kernel
theorem dX5_pushOf_1 : decode cX5_pushOf 1 = .ok (.iload_n 1, 1) := by decide +kernel
theorem dX5_pushOf_2 : decode cX5_pushOf 2 = .ok (.invokevirtual 44, 3) := by decide +kernel
theorem dX5_pushOf_5 : decode cX5_pushOf 5 = .ok (.ifCond .eq 19, 3) := by decide +kernel
theorem dX5_pushOf_8 : decode cX5_pushOf 8 = .ok (.aload_n 0, 1) := by decide +kernel
theorem dX5_pushOf_9 : decode cX5_pushOf 9 = .ok (.getfield 27, 3) := by decide +kernel
theorem dX5_pushOf_12 : decode cX5_pushOf 12 = .ok (.aload_n 0, 1) := by decide +kernel
theorem dX5_pushOf_13 : decode cX5_pushOf 13 = .ok (.getfield 9, 3) := by decide +kernel
theorem dX5_pushOf_16 : decode cX5_pushOf 16 = .ok (.iload_n 1, 1) := by decide +kernel
theorem dX5_pushOf_17 : decode cX5_pushOf 17 = .ok (.iaload, 1) := by decide +kernel
theorem dX5_pushOf_18 : decode cX5_pushOf 18 = .ok (.invokevirtual 54, 3) := by decide +kernel
theorem dX5_pushOf_21 : decode cX5_pushOf 21 = .ok (.goto 4, 3) := by decide +kernel
theorem dX5_pushOf_24 : decode cX5_pushOf 24 = .ok (.iconst 0, 1) := by decide +kernel
theorem dX5_pushOf_25 : decode cX5_pushOf 25 = .ok (.ireturn, 1) := by decide +kernel
theorem dX5_howManyOfSort_0 : decode cX5_howManyOfSort 0 = .ok (.iconst 0, 1) := by decide +kernel
theorem dX5_howManyOfSort_1 : decode cX5_howManyOfSort 1 = .ok (.istore_n 2, 1) := by decide +kernel
theorem dX5_howManyOfSort_2 : decode cX5_howManyOfSort 2 = .ok (.iconst 0, 1) := by decide +kernel
theorem dX5_howManyOfSort_3 : decode cX5_howManyOfSort 3 = .ok (.istore_n 3, 1) := by decide +kernel
theorem dX5_howManyOfSort_4 : decode cX5_howManyOfSort 4 = .ok (.iload_n 3, 1) := by decide +kernel
theorem dX5_howManyOfSort_5 : decode cX5_howManyOfSort 5 = .ok (.aload_n 0, 1) := by decide +kernel
theorem dX5_howManyOfSort_6 : decode cX5_howManyOfSort 6 = .ok (.getfield 35, 3) := by decide +kernel
theorem dX5_howManyOfSort_9 : decode cX5_howManyOfSort 9 = .ok (.if_icmp .ge 22, 3) := by decide +kernel
theorem dX5_howManyOfSort_12 : decode cX5_howManyOfSort 12 = .ok (.aload_n 0, 1) := by decide +kernel
theorem dX5_howManyOfSort_13 : decode cX5_howManyOfSort 13 = .ok (.getfield 9, 3) := by decide +kernel
theorem dX5_howManyOfSort_16 : decode cX5_howManyOfSort 16 = .ok (.iload_n 3, 1) := by decide +kernel
theorem dX5_howManyOfSort_17 : decode cX5_howManyOfSort 17 = .ok (.iaload, 1) := by decide +kernel
theorem dX5_howManyOfSort_18 : decode cX5_howManyOfSort 18 = .ok (.iload_n 1, 1) := by decide +kernel
theorem dX5_howManyOfSort_19 : decode cX5_howManyOfSort 19 = .ok (.if_icmp .ne 6, 3) := by decide +kernel
theorem dX5_howManyOfSort_22 : decode cX5_howManyOfSort 22 = .ok (.iinc 2 1, 3) := by decide +kernel
theorem dX5_howManyOfSort_25 : decode cX5_howManyOfSort 25 = .ok (.iinc 3 1, 3) := by decide +kernel
theorem dX5_howManyOfSort_28 : decode cX5_howManyOfSort 28 = .ok (.goto (-24), 3) := by decide +kernel
theorem dX5_howManyOfSort_31 : decode cX5_howManyOfSort 31 = .ok (.iload_n 2, 1) := by decide +kernel
theorem dX5_howManyOfSort_32 : decode cX5_howManyOfSort 32 = .ok (.ireturn, 1) := by decide +kernel
theorem dX5_whoIs_0 : decode cX5_whoIs 0 = .ok (.iconst 0, 1) := by decide +kernel
theorem dX5_whoIs_1 : decode cX5_whoIs 1 = .ok (.istore_n 2, 1) := by decide +kernel
theorem dX5_whoIs_2 : decode cX5_whoIs 2 = .ok (.iconst 0, 1) := by decide +kernel
theorem dX5_whoIs_3 : decode cX5_whoIs 3 = .ok (.istore_n 3, 1) := by decide +kernel
theorem dX5_whoIs_4 : decode cX5_whoIs 4 = .ok (.iload_n 3, 1) := by decide +kernel
theorem dX5_whoIs_5 : decode cX5_whoIs 5 = .ok (.aload_n 0, 1) := by decide +kernel
theorem dX5_whoIs_6 : decode cX5_whoIs 6 = .ok (.getfield 35, 3) := by decide +kernel
theorem dX5_whoIs_9 : decode cX5_whoIs 9 = .ok (.if_icmp .ge 25, 3) := by decide +kernel
theorem dX5_whoIs_12 : decode cX5_whoIs 12 = .ok (.aload_n 0, 1) := by decide +kernel
theorem dX5_whoIs_13 : decode cX5_whoIs 13 = .ok (.getfield 18, 3) := by decide +kernel
theorem dX5_whoIs_16 : decode cX5_whoIs 16 = .ok (.iload_n 3, 1) := by decide +kernel
theorem dX5_whoIs_17 : decode cX5_whoIs 17 = .ok (.iaload, 1) := by decide +kernel
theorem dX5_whoIs_18 : decode cX5_whoIs 18 = .ok (.iload_n 1, 1) := by decide +kernel
theorem dX5_whoIs_19 : decode cX5_whoIs 19 = .ok (.if_icmp .ne 9, 3) := by decide +kernel
theorem dX5_whoIs_22 : decode cX5_whoIs 22 = .ok (.iload_n 2, 1) := by decide +kernel
theorem dX5_whoIs_23 : decode cX5_whoIs 23 = .ok (.iconst 1, 1) := by decide +kernel
theorem dX5_whoIs_24 : decode cX5_whoIs 24 = .ok (.iload_n 3, 1) := by decide +kernel
theorem dX5_whoIs_25 : decode cX5_whoIs 25 = .ok (.ishl, 1) := by decide +kernel
theorem dX5_whoIs_26 : decode cX5_whoIs 26 = .ok (.ior, 1) := by decide +kernel
theorem dX5_whoIs_27 : decode cX5_whoIs 27 = .ok (.istore_n 2, 1) := by decide +kernel
theorem dX5_whoIs_28 : decode cX5_whoIs 28 = .ok (.iinc 3 1, 3) := by decide +kernel
theorem dX5_whoIs_31 : decode cX5_whoIs 31 = .ok (.goto (-27), 3) := by decide +kernel
theorem dX5_whoIs_34 : decode cX5_whoIs 34 = .ok (.iload_n 2, 1) := by decide +kernel
theorem dX5_whoIs_35 : decode cX5_whoIs 35 = .ok (.ireturn, 1) := by decide +kernel
theorem dX5_howManyAre_0 : decode cX5_howManyAre 0 = .ok (.aload_n 0, 1) := by decide +kernel
theorem dX5_howManyAre_1 : decode cX5_howManyAre 1 = .ok (.iload_n 1, 1) := by decide +kernel
theorem dX5_howManyAre_2 : decode cX5_howManyAre 2 = .ok (.invokevirtual 57, 3) := by decide +kernel
theorem dX5_howManyAre_5 : decode cX5_howManyAre 5 = .ok (.invokestatic 60, 3) := by decide +kernel
theorem dX5_howManyAre_8 : decode cX5_howManyAre 8 = .ok (.ireturn, 1) := by decide +kernel
theorem dX5_whoIsInRoomAt_0 : decode cX5_whoIsInRoomAt 0 = .ok (.iconst 0, 1) := by decide +kernel
theorem dX5_whoIsInRoomAt_1 : decode cX5_whoIsInRoomAt 1 = .ok (.istore_n 2, 1) := by decide +kernel
theorem dX5_whoIsInRoomAt_2 : decode cX5_whoIsInRoomAt 2 = .ok (.iconst 0, 1) := by decide +kernel
theorem dX5_whoIsInRoomAt_3 : decode cX5_whoIsInRoomAt 3 = .ok (.istore_n 3, 1) := by decide +kernel
theorem dX5_whoIsInRoomAt_4 : decode cX5_whoIsInRoomAt 4 = .ok (.iload_n 3, 1) := by decide +kernel
theorem dX5_whoIsInRoomAt_5 : decode cX5_whoIsInRoomAt 5 = .ok (.aload_n 0, 1) := by decide +kernel
theorem dX5_whoIsInRoomAt_6 : decode cX5_whoIsInRoomAt 6 = .ok (.getfield 35, 3) := by decide +kernel
theorem dX5_whoIsInRoomAt_9 : decode cX5_whoIsInRoomAt 9 = .ok (.if_icmp .ge 35, 3) := by decide +kernel
theorem dX5_whoIsInRoomAt_12 : decode cX5_whoIsInRoomAt 12 = .ok (.aload_n 0, 1) := by decide +kernel
theorem dX5_whoIsInRoomAt_13 : decode cX5_whoIsInRoomAt 13 = .ok (.getfield 18, 3) := by decide +kernel
theorem dX5_whoIsInRoomAt_16 : decode cX5_whoIsInRoomAt 16 = .ok (.iload_n 3, 1) := by decide +kernel
theorem dX5_whoIsInRoomAt_17 : decode cX5_whoIsInRoomAt 17 = .ok (.iaload, 1) := by decide +kernel
theorem dX5_whoIsInRoomAt_18 : decode cX5_whoIsInRoomAt 18 = .ok (.iconst 1, 1) := by decide +kernel
theorem dX5_whoIsInRoomAt_19 : decode cX5_whoIsInRoomAt 19 = .ok (.if_icmp .ne 19, 3) := by decide +kernel
theorem dX5_whoIsInRoomAt_22 : decode cX5_whoIsInRoomAt 22 = .ok (.aload_n 0, 1) := by decide +kernel
theorem dX5_whoIsInRoomAt_23 : decode cX5_whoIsInRoomAt 23 = .ok (.getfield 21, 3) := by decide +kernel
theorem dX5_whoIsInRoomAt_26 : decode cX5_whoIsInRoomAt 26 = .ok (.iload_n 3, 1) := by decide +kernel
theorem dX5_whoIsInRoomAt_27 : decode cX5_whoIsInRoomAt 27 = .ok (.iaload, 1) := by decide +kernel
theorem dX5_whoIsInRoomAt_28 : decode cX5_whoIsInRoomAt 28 = .ok (.iload_n 1, 1) := by decide +kernel
theorem dX5_whoIsInRoomAt_29 : decode cX5_whoIsInRoomAt 29 = .ok (.if_icmp .ne 9, 3) := by decide +kernel
theorem dX5_whoIsInRoomAt_32 : decode cX5_whoIsInRoomAt 32 = .ok (.iload_n 2, 1) := by decide +kernel
theorem dX5_whoIsInRoomAt_33 : decode cX5_whoIsInRoomAt 33 = .ok (.iconst 1, 1) := by decide +kernel
theorem dX5_whoIsInRoomAt_34 : decode cX5_whoIsInRoomAt 34 = .ok (.iload_n 3, 1) := by decide +kernel
theorem dX5_whoIsInRoomAt_35 : decode cX5_whoIsInRoomAt 35 = .ok (.ishl, 1) := by decide +kernel
theorem dX5_whoIsInRoomAt_36 : decode cX5_whoIsInRoomAt 36 = .ok (.ior, 1) := by decide +kernel
theorem dX5_whoIsInRoomAt_37 : decode cX5_whoIsInRoomAt 37 = .ok (.istore_n 2, 1) := by decide +kernel
theorem dX5_whoIsInRoomAt_38 : decode cX5_whoIsInRoomAt 38 = .ok (.iinc 3 1, 3) := by decide +kernel
theorem dX5_whoIsInRoomAt_41 : decode cX5_whoIsInRoomAt 41 = .ok (.goto (-37), 3) := by decide +kernel
theorem dX5_whoIsInRoomAt_44 : decode cX5_whoIsInRoomAt 44 = .ok (.iload_n 2, 1) := by decide +kernel
theorem dX5_whoIsInRoomAt_45 : decode cX5_whoIsInRoomAt 45 = .ok (.ireturn, 1) := by decide +kernel
theorem dX5_bulkInRoomAt_0 : decode cX5_bulkInRoomAt 0 = .ok (.iconst 0, 1) := by decide +kernel
theorem dX5_bulkInRoomAt_1 : decode cX5_bulkInRoomAt 1 = .ok (.istore_n 2, 1) := by decide +kernel
theorem dX5_bulkInRoomAt_2 : decode cX5_bulkInRoomAt 2 = .ok (.iconst 0, 1) := by decide +kernel
theorem dX5_bulkInRoomAt_3 : decode cX5_bulkInRoomAt 3 = .ok (.istore_n 3, 1) := by decide +kernel
theorem dX5_bulkInRoomAt_4 : decode cX5_bulkInRoomAt 4 = .ok (.iload_n 3, 1) := by decide +kernel
theorem dX5_bulkInRoomAt_5 : decode cX5_bulkInRoomAt 5 = .ok (.aload_n 0, 1) := by decide +kernel
theorem dX5_bulkInRoomAt_6 : decode cX5_bulkInRoomAt 6 = .ok (.getfield 35, 3) := by decide +kernel
theorem dX5_bulkInRoomAt_9 : decode cX5_bulkInRoomAt 9 = .ok (.if_icmp .ge 45, 3) := by decide +kernel
theorem dX5_bulkInRoomAt_12 : decode cX5_bulkInRoomAt 12 = .ok (.aload_n 0, 1) := by decide +kernel
theorem dX5_bulkInRoomAt_13 : decode cX5_bulkInRoomAt 13 = .ok (.getfield 18, 3) := by decide +kernel
theorem dX5_bulkInRoomAt_16 : decode cX5_bulkInRoomAt 16 = .ok (.iload_n 3, 1) := by decide +kernel
theorem dX5_bulkInRoomAt_17 : decode cX5_bulkInRoomAt 17 = .ok (.iaload, 1) := by decide +kernel
theorem dX5_bulkInRoomAt_18 : decode cX5_bulkInRoomAt 18 = .ok (.iconst 1, 1) := by decide +kernel
theorem dX5_bulkInRoomAt_19 : decode cX5_bulkInRoomAt 19 = .ok (.if_icmp .ne 29, 3) := by decide +kernel
theorem dX5_bulkInRoomAt_22 : decode cX5_bulkInRoomAt 22 = .ok (.aload_n 0, 1) := by decide +kernel
theorem dX5_bulkInRoomAt_23 : decode cX5_bulkInRoomAt 23 = .ok (.getfield 21, 3) := by decide +kernel
theorem dX5_bulkInRoomAt_26 : decode cX5_bulkInRoomAt 26 = .ok (.iload_n 3, 1) := by decide +kernel
theorem dX5_bulkInRoomAt_27 : decode cX5_bulkInRoomAt 27 = .ok (.iaload, 1) := by decide +kernel
theorem dX5_bulkInRoomAt_28 : decode cX5_bulkInRoomAt 28 = .ok (.iload_n 1, 1) := by decide +kernel
theorem dX5_bulkInRoomAt_29 : decode cX5_bulkInRoomAt 29 = .ok (.if_icmp .ne 19, 3) := by decide +kernel
theorem dX5_bulkInRoomAt_32 : decode cX5_bulkInRoomAt 32 = .ok (.iload_n 2, 1) := by decide +kernel
theorem dX5_bulkInRoomAt_33 : decode cX5_bulkInRoomAt 33 = .ok (.aload_n 0, 1) := by decide +kernel
theorem dX5_bulkInRoomAt_34 : decode cX5_bulkInRoomAt 34 = .ok (.getfield 27, 3) := by decide +kernel
theorem dX5_bulkInRoomAt_37 : decode cX5_bulkInRoomAt 37 = .ok (.aload_n 0, 1) := by decide +kernel
theorem dX5_bulkInRoomAt_38 : decode cX5_bulkInRoomAt 38 = .ok (.getfield 9, 3) := by decide +kernel
theorem dX5_bulkInRoomAt_41 : decode cX5_bulkInRoomAt 41 = .ok (.iload_n 3, 1) := by decide +kernel
theorem dX5_bulkInRoomAt_42 : decode cX5_bulkInRoomAt 42 = .ok (.iaload, 1) := by decide +kernel
theorem dX5_bulkInRoomAt_43 : decode cX5_bulkInRoomAt 43 = .ok (.invokevirtual 48, 3) := by decide +kernel
theorem dX5_bulkInRoomAt_46 : decode cX5_bulkInRoomAt 46 = .ok (.iadd, 1) := by decide +kernel
theorem dX5_bulkInRoomAt_47 : decode cX5_bulkInRoomAt 47 = .ok (.istore_n 2, 1) := by decide +kernel
theorem dX5_bulkInRoomAt_48 : decode cX5_bulkInRoomAt 48 = .ok (.iinc 3 1, 3) := by decide +kernel
theorem dX5_bulkInRoomAt_51 : decode cX5_bulkInRoomAt 51 = .ok (.goto (-47), 3) := by decide +kernel
theorem dX5_bulkInRoomAt_54 : decode cX5_bulkInRoomAt 54 = .ok (.iload_n 2, 1) := by decide +kernel
theorem dX5_bulkInRoomAt_55 : decode cX5_bulkInRoomAt 55 = .ok (.ireturn, 1) := by decide +kernel
theorem dX5_load_0 : decode cX5_load 0 = .ok (.iconst 0, 1) := by decide +kernel
theorem dX5_load_1 : decode cX5_load 1 = .ok (.istore_n 1, 1) := by decide +kernel
theorem dX5_load_2 : decode cX5_load 2 = .ok (.iconst 0, 1) := by decide +kernel
theorem dX5_load_3 : decode cX5_load 3 = .ok (.istore_n 2, 1) := by decide +kernel
theorem dX5_load_4 : decode cX5_load 4 = .ok (.iload_n 2, 1) := by decide +kernel
theorem dX5_load_5 : decode cX5_load 5 = .ok (.aload_n 0, 1) := by decide +kernel
theorem dX5_load_6 : decode cX5_load 6 = .ok (.getfield 35, 3) := by decide +kernel
theorem dX5_load_9 : decode cX5_load 9 = .ok (.if_icmp .ge 35, 3) := by decide +kernel
theorem dX5_load_12 : decode cX5_load 12 = .ok (.aload_n 0, 1) := by decide +kernel
theorem dX5_load_13 : decode cX5_load 13 = .ok (.getfield 18, 3) := by decide +kernel
theorem dX5_load_16 : decode cX5_load 16 = .ok (.iload_n 2, 1) := by decide +kernel
theorem dX5_load_17 : decode cX5_load 17 = .ok (.iaload, 1) := by decide +kernel
theorem dX5_load_18 : decode cX5_load 18 = .ok (.iconst 1, 1) := by decide +kernel
theorem dX5_load_19 : decode cX5_load 19 = .ok (.if_icmp .ne 19, 3) := by decide +kernel
theorem dX5_load_22 : decode cX5_load 22 = .ok (.iload_n 1, 1) := by decide +kernel
theorem dX5_load_23 : decode cX5_load 23 = .ok (.aload_n 0, 1) := by decide +kernel
theorem dX5_load_24 : decode cX5_load 24 = .ok (.getfield 27, 3) := by decide +kernel
theorem dX5_load_27 : decode cX5_load 27 = .ok (.aload_n 0, 1) := by decide +kernel
theorem dX5_load_28 : decode cX5_load 28 = .ok (.getfield 9, 3) := by decide +kernel
theorem dX5_load_31 : decode cX5_load 31 = .ok (.iload_n 2, 1) := by decide +kernel
theorem dX5_load_32 : decode cX5_load 32 = .ok (.iaload, 1) := by decide +kernel
theorem dX5_load_33 : decode cX5_load 33 = .ok (.invokevirtual 54, 3) := by decide +kernel
theorem dX5_load_36 : decode cX5_load 36 = .ok (.iadd, 1) := by decide +kernel
theorem dX5_load_37 : decode cX5_load 37 = .ok (.istore_n 1, 1) := by decide +kernel
theorem dX5_load_38 : decode cX5_load 38 = .ok (.iinc 2 1, 3) := by decide +kernel
theorem dX5_load_41 : decode cX5_load 41 = .ok (.goto (-37), 3) := by decide +kernel
theorem dX5_load_44 : decode cX5_load 44 = .ok (.iload_n 1, 1) := by decide +kernel
theorem dX5_load_45 : decode cX5_load 45 = .ok (.ireturn, 1) := by decide +kernel
theorem dX5_drag_0 : decode cX5_drag 0 = .ok (.aload_n 0, 1) := by decide +kernel
theorem dX5_drag_1 : decode cX5_drag 1 = .ok (.getfield 27, 3) := by decide +kernel
theorem dX5_drag_4 : decode cX5_drag 4 = .ok (.getfield 65, 3) := by decide +kernel
theorem dX5_drag_7 : decode cX5_drag 7 = .ok (.aload_n 0, 1) := by decide +kernel
theorem dX5_drag_8 : decode cX5_drag 8 = .ok (.iconst 1, 1) := by decide +kernel
theorem dX5_drag_9 : decode cX5_drag 9 = .ok (.invokevirtual 57, 3) := by decide +kernel
theorem dX5_drag_12 : decode cX5_drag 12 = .ok (.invokestatic 60, 3) := by decide +kernel
theorem dX5_drag_15 : decode cX5_drag 15 = .ok (.iadd, 1) := by decide +kernel
theorem dX5_drag_16 : decode cX5_drag 16 = .ok (.ireturn, 1) := by decide +kernel
theorem dX5_sticks_0 : decode cX5_sticks 0 = .ok (.aload_n 0, 1) := by decide +kernel
theorem dX5_sticks_1 : decode cX5_sticks 1 = .ok (.iconst 1, 1) := by decide +kernel
theorem dX5_sticks_2 : decode cX5_sticks 2 = .ok (.invokevirtual 57, 3) := by decide +kernel
theorem dX5_sticks_5 : decode cX5_sticks 5 = .ok (.ifCond .eq 14, 3) := by decide +kernel
theorem dX5_sticks_8 : decode cX5_sticks 8 = .ok (.aload_n 0, 1) := by decide +kernel
theorem dX5_sticks_9 : decode cX5_sticks 9 = .ok (.invokevirtual 68, 3) := by decide +kernel
theorem dX5_sticks_12 : decode cX5_sticks 12 = .ok (.aload_n 0, 1) := by decide +kernel
theorem dX5_sticks_13 : decode cX5_sticks 13 = .ok (.invokevirtual 72, 3) := by decide +kernel
theorem dX5_sticks_16 : decode cX5_sticks 16 = .ok (.if_icmp .ge 7, 3) := by decide +kernel
theorem dX5_sticks_19 : decode cX5_sticks 19 = .ok (.iconst 1, 1) := by decide +kernel
theorem dX5_sticks_20 : decode cX5_sticks 20 = .ok (.goto 4, 3) := by decide +kernel
theorem dX5_sticks_23 : decode cX5_sticks 23 = .ok (.iconst 0, 1) := by decide +kernel
theorem dX5_sticks_24 : decode cX5_sticks 24 = .ok (.ireturn, 1) := by decide +kernel
theorem dX5_firstOn_0 : decode cX5_firstOn 0 = .ok (.iconst (-1), 1) := by decide +kernel
theorem dX5_firstOn_1 : decode cX5_firstOn 1 = .ok (.istore_n 2, 1) := by decide +kernel
theorem dX5_firstOn_2 : decode cX5_firstOn 2 = .ok (.iconst 0, 1) := by decide +kernel
theorem dX5_firstOn_3 : decode cX5_firstOn 3 = .ok (.istore_n 3, 1) := by decide +kernel
theorem dX5_firstOn_4 : decode cX5_firstOn 4 = .ok (.iload_n 3, 1) := by decide +kernel
theorem dX5_firstOn_5 : decode cX5_firstOn 5 = .ok (.aload_n 0, 1) := by decide +kernel
theorem dX5_firstOn_6 : decode cX5_firstOn 6 = .ok (.getfield 35, 3) := by decide +kernel
theorem dX5_firstOn_9 : decode cX5_firstOn 9 = .ok (.if_icmp .ge 62, 3) := by decide +kernel
theorem dX5_firstOn_12 : decode cX5_firstOn 12 = .ok (.aload_n 0, 1) := by decide +kernel
theorem dX5_firstOn_13 : decode cX5_firstOn 13 = .ok (.getfield 18, 3) := by decide +kernel
theorem dX5_firstOn_16 : decode cX5_firstOn 16 = .ok (.iload_n 3, 1) := by decide +kernel
theorem dX5_firstOn_17 : decode cX5_firstOn 17 = .ok (.iaload, 1) := by decide +kernel
theorem dX5_firstOn_18 : decode cX5_firstOn 18 = .ok (.ifCond .ne 17, 3) := by decide +kernel
theorem dX5_firstOn_21 : decode cX5_firstOn 21 = .ok (.aload_n 0, 1) := by decide +kernel
theorem dX5_firstOn_22 : decode cX5_firstOn 22 = .ok (.getfield 15, 3) := by decide +kernel
theorem dX5_firstOn_25 : decode cX5_firstOn 25 = .ok (.iload_n 3, 1) := by decide +kernel
theorem dX5_firstOn_26 : decode cX5_firstOn 26 = .ok (.iaload, 1) := by decide +kernel
theorem dX5_firstOn_27 : decode cX5_firstOn 27 = .ok (.iload_n 1, 1) := by decide +kernel
theorem dX5_firstOn_28 : decode cX5_firstOn 28 = .ok (.if_icmp .ne 7, 3) := by decide +kernel
theorem dX5_firstOn_31 : decode cX5_firstOn 31 = .ok (.iconst 1, 1) := by decide +kernel
theorem dX5_firstOn_32 : decode cX5_firstOn 32 = .ok (.goto 4, 3) := by decide +kernel
theorem dX5_firstOn_35 : decode cX5_firstOn 35 = .ok (.iconst 0, 1) := by decide +kernel
theorem dX5_firstOn_36 : decode cX5_firstOn 36 = .ok (.istore 4, 2) := by decide +kernel
theorem dX5_firstOn_38 : decode cX5_firstOn 38 = .ok (.iload 4, 2) := by decide +kernel
theorem dX5_firstOn_40 : decode cX5_firstOn 40 = .ok (.ifCond .eq 25, 3) := by decide +kernel
theorem dX5_firstOn_43 : decode cX5_firstOn 43 = .ok (.iload_n 2, 1) := by decide +kernel
theorem dX5_firstOn_44 : decode cX5_firstOn 44 = .ok (.iconst (-1), 1) := by decide +kernel
theorem dX5_firstOn_45 : decode cX5_firstOn 45 = .ok (.if_icmp .eq 18, 3) := by decide +kernel
theorem dX5_firstOn_48 : decode cX5_firstOn 48 = .ok (.aload_n 0, 1) := by decide +kernel
theorem dX5_firstOn_49 : decode cX5_firstOn 49 = .ok (.getfield 24, 3) := by decide +kernel
theorem dX5_firstOn_52 : decode cX5_firstOn 52 = .ok (.iload_n 3, 1) := by decide +kernel
theorem dX5_firstOn_53 : decode cX5_firstOn 53 = .ok (.iaload, 1) := by decide +kernel
theorem dX5_firstOn_54 : decode cX5_firstOn 54 = .ok (.aload_n 0, 1) := by decide +kernel
theorem dX5_firstOn_55 : decode cX5_firstOn 55 = .ok (.getfield 24, 3) := by decide +kernel
theorem dX5_firstOn_58 : decode cX5_firstOn 58 = .ok (.iload_n 2, 1) := by decide +kernel
theorem dX5_firstOn_59 : decode cX5_firstOn 59 = .ok (.iaload, 1) := by decide +kernel
theorem dX5_firstOn_60 : decode cX5_firstOn 60 = .ok (.if_icmp .ge 5, 3) := by decide +kernel
theorem dX5_firstOn_63 : decode cX5_firstOn 63 = .ok (.iload_n 3, 1) := by decide +kernel
theorem dX5_firstOn_64 : decode cX5_firstOn 64 = .ok (.istore_n 2, 1) := by decide +kernel
theorem dX5_firstOn_65 : decode cX5_firstOn 65 = .ok (.iinc 3 1, 3) := by decide +kernel
theorem dX5_firstOn_68 : decode cX5_firstOn 68 = .ok (.goto (-64), 3) := by decide +kernel
theorem dX5_firstOn_71 : decode cX5_firstOn 71 = .ok (.iload_n 2, 1) := by decide +kernel
theorem dX5_firstOn_72 : decode cX5_firstOn 72 = .ok (.ireturn, 1) := by decide +kernel
theorem dX5_howManyAheadOf_0 : decode cX5_howManyAheadOf 0 = .ok (.aload_n 0, 1) := by decide +kernel
theorem dX5_howManyAheadOf_1 : decode cX5_howManyAheadOf 1 = .ok (.iload_n 1, 1) := by decide +kernel
theorem dX5_howManyAheadOf_2 : decode cX5_howManyAheadOf 2 = .ok (.invokevirtual 44, 3) := by decide +kernel
theorem dX5_howManyAheadOf_5 : decode cX5_howManyAheadOf 5 = .ok (.ifCond .ne 5, 3) := by decide +kernel
theorem dX5_howManyAheadOf_8 : decode cX5_howManyAheadOf 8 = .ok (.iconst 0, 1) := by decide +kernel
theorem dX5_howManyAheadOf_9 : decode cX5_howManyAheadOf 9 = .ok (.ireturn, 1) := by decide +kernel
theorem dX5_howManyAheadOf_10 : decode cX5_howManyAheadOf 10 = .ok (.iconst 0, 1) := by decide +kernel
theorem dX5_howManyAheadOf_11 : decode cX5_howManyAheadOf 11 = .ok (.istore_n 2, 1) := by decide +kernel
theorem dX5_howManyAheadOf_12 : decode cX5_howManyAheadOf 12 = .ok (.iconst 0, 1) := by decide +kernel
theorem dX5_howManyAheadOf_13 : decode cX5_howManyAheadOf 13 = .ok (.istore_n 3, 1) := by decide +kernel
theorem dX5_howManyAheadOf_14 : decode cX5_howManyAheadOf 14 = .ok (.iload_n 3, 1) := by decide +kernel
theorem dX5_howManyAheadOf_15 : decode cX5_howManyAheadOf 15 = .ok (.aload_n 0, 1) := by decide +kernel
theorem dX5_howManyAheadOf_16 : decode cX5_howManyAheadOf 16 = .ok (.getfield 35, 3) := by decide +kernel
theorem dX5_howManyAheadOf_19 : decode cX5_howManyAheadOf 19 = .ok (.if_icmp .ge 63, 3) := by decide +kernel
theorem dX5_howManyAheadOf_22 : decode cX5_howManyAheadOf 22 = .ok (.aload_n 0, 1) := by decide +kernel
theorem dX5_howManyAheadOf_23 : decode cX5_howManyAheadOf 23 = .ok (.getfield 18, 3) := by decide +kernel
theorem dX5_howManyAheadOf_26 : decode cX5_howManyAheadOf 26 = .ok (.iload_n 3, 1) := by decide +kernel
theorem dX5_howManyAheadOf_27 : decode cX5_howManyAheadOf 27 = .ok (.iaload, 1) := by decide +kernel
theorem dX5_howManyAheadOf_28 : decode cX5_howManyAheadOf 28 = .ok (.ifCond .ne 22, 3) := by decide +kernel
theorem dX5_howManyAheadOf_31 : decode cX5_howManyAheadOf 31 = .ok (.aload_n 0, 1) := by decide +kernel
theorem dX5_howManyAheadOf_32 : decode cX5_howManyAheadOf 32 = .ok (.getfield 15, 3) := by decide +kernel
theorem dX5_howManyAheadOf_35 : decode cX5_howManyAheadOf 35 = .ok (.iload_n 3, 1) := by decide +kernel
theorem dX5_howManyAheadOf_36 : decode cX5_howManyAheadOf 36 = .ok (.iaload, 1) := by decide +kernel
theorem dX5_howManyAheadOf_37 : decode cX5_howManyAheadOf 37 = .ok (.aload_n 0, 1) := by decide +kernel
theorem dX5_howManyAheadOf_38 : decode cX5_howManyAheadOf 38 = .ok (.getfield 15, 3) := by decide +kernel
theorem dX5_howManyAheadOf_41 : decode cX5_howManyAheadOf 41 = .ok (.iload_n 1, 1) := by decide +kernel
theorem dX5_howManyAheadOf_42 : decode cX5_howManyAheadOf 42 = .ok (.iaload, 1) := by decide +kernel
theorem dX5_howManyAheadOf_43 : decode cX5_howManyAheadOf 43 = .ok (.if_icmp .ne 7, 3) := by decide +kernel
theorem dX5_howManyAheadOf_46 : decode cX5_howManyAheadOf 46 = .ok (.iconst 1, 1) := by decide +kernel
theorem dX5_howManyAheadOf_47 : decode cX5_howManyAheadOf 47 = .ok (.goto 4, 3) := by decide +kernel
theorem dX5_howManyAheadOf_50 : decode cX5_howManyAheadOf 50 = .ok (.iconst 0, 1) := by decide +kernel
theorem dX5_howManyAheadOf_51 : decode cX5_howManyAheadOf 51 = .ok (.istore 4, 2) := by decide +kernel
theorem dX5_howManyAheadOf_53 : decode cX5_howManyAheadOf 53 = .ok (.iload 4, 2) := by decide +kernel
theorem dX5_howManyAheadOf_55 : decode cX5_howManyAheadOf 55 = .ok (.ifCond .eq 21, 3) := by decide +kernel
theorem dX5_howManyAheadOf_58 : decode cX5_howManyAheadOf 58 = .ok (.aload_n 0, 1) := by decide +kernel
theorem dX5_howManyAheadOf_59 : decode cX5_howManyAheadOf 59 = .ok (.getfield 24, 3) := by decide +kernel
theorem dX5_howManyAheadOf_62 : decode cX5_howManyAheadOf 62 = .ok (.iload_n 3, 1) := by decide +kernel
theorem dX5_howManyAheadOf_63 : decode cX5_howManyAheadOf 63 = .ok (.iaload, 1) := by decide +kernel
theorem dX5_howManyAheadOf_64 : decode cX5_howManyAheadOf 64 = .ok (.aload_n 0, 1) := by decide +kernel
theorem dX5_howManyAheadOf_65 : decode cX5_howManyAheadOf 65 = .ok (.getfield 24, 3) := by decide +kernel
theorem dX5_howManyAheadOf_68 : decode cX5_howManyAheadOf 68 = .ok (.iload_n 1, 1) := by decide +kernel
theorem dX5_howManyAheadOf_69 : decode cX5_howManyAheadOf 69 = .ok (.iaload, 1) := by decide +kernel
theorem dX5_howManyAheadOf_70 : decode cX5_howManyAheadOf 70 = .ok (.if_icmp .ge 6, 3) := by decide +kernel
theorem dX5_howManyAheadOf_73 : decode cX5_howManyAheadOf 73 = .ok (.iinc 2 1, 3) := by decide +kernel
theorem dX5_howManyAheadOf_76 : decode cX5_howManyAheadOf 76 = .ok (.iinc 3 1, 3) := by decide +kernel
theorem dX5_howManyAheadOf_79 : decode cX5_howManyAheadOf 79 = .ok (.goto (-65), 3) := by decide +kernel
theorem dX5_howManyAheadOf_82 : decode cX5_howManyAheadOf 82 = .ok (.iload_n 2, 1) := by decide +kernel
theorem dX5_howManyAheadOf_83 : decode cX5_howManyAheadOf 83 = .ok (.ireturn, 1) := by decide +kernel
theorem dX5_letCome_0 : decode cX5_letCome 0 = .ok (.aload_n 0, 1) := by decide +kernel
theorem dX5_letCome_1 : decode cX5_letCome 1 = .ok (.getfield 35, 3) := by decide +kernel
theorem dX5_letCome_4 : decode cX5_letCome 4 = .ok (.bipush 9, 2) := by decide +kernel
theorem dX5_letCome_6 : decode cX5_letCome 6 = .ok (.if_icmp .lt 5, 3) := by decide +kernel
theorem dX5_letCome_9 : decode cX5_letCome 9 = .ok (.iconst (-1), 1) := by decide +kernel
theorem dX5_letCome_10 : decode cX5_letCome 10 = .ok (.ireturn, 1) := by decide +kernel
theorem dX5_letCome_11 : decode cX5_letCome 11 = .ok (.aload_n 0, 1) := by decide +kernel
theorem dX5_letCome_12 : decode cX5_letCome 12 = .ok (.getfield 35, 3) := by decide +kernel
theorem dX5_letCome_15 : decode cX5_letCome 15 = .ok (.istore_n 3, 1) := by decide +kernel
theorem dX5_letCome_16 : decode cX5_letCome 16 = .ok (.aload_n 0, 1) := by decide +kernel
theorem dX5_letCome_17 : decode cX5_letCome 17 = .ok (.dup, 1) := by decide +kernel
theorem dX5_letCome_18 : decode cX5_letCome 18 = .ok (.getfield 35, 3) := by decide +kernel
theorem dX5_letCome_21 : decode cX5_letCome 21 = .ok (.iconst 1, 1) := by decide +kernel
theorem dX5_letCome_22 : decode cX5_letCome 22 = .ok (.iadd, 1) := by decide +kernel
theorem dX5_letCome_23 : decode cX5_letCome 23 = .ok (.putfield 35, 3) := by decide +kernel
theorem dX5_letCome_26 : decode cX5_letCome 26 = .ok (.aload_n 0, 1) := by decide +kernel
theorem dX5_letCome_27 : decode cX5_letCome 27 = .ok (.getfield 9, 3) := by decide +kernel
theorem dX5_letCome_30 : decode cX5_letCome 30 = .ok (.iload_n 3, 1) := by decide +kernel
theorem dX5_letCome_31 : decode cX5_letCome 31 = .ok (.iload_n 1, 1) := by decide +kernel
theorem dX5_letCome_32 : decode cX5_letCome 32 = .ok (.iastore, 1) := by decide +kernel
theorem dX5_letCome_33 : decode cX5_letCome 33 = .ok (.aload_n 0, 1) := by decide +kernel
theorem dX5_letCome_34 : decode cX5_letCome 34 = .ok (.getfield 15, 3) := by decide +kernel
theorem dX5_letCome_37 : decode cX5_letCome 37 = .ok (.iload_n 3, 1) := by decide +kernel
theorem dX5_letCome_38 : decode cX5_letCome 38 = .ok (.iload_n 2, 1) := by decide +kernel
theorem dX5_letCome_39 : decode cX5_letCome 39 = .ok (.iastore, 1) := by decide +kernel
theorem dX5_letCome_40 : decode cX5_letCome 40 = .ok (.aload_n 0, 1) := by decide +kernel
theorem dX5_letCome_41 : decode cX5_letCome 41 = .ok (.getfield 18, 3) := by decide +kernel
theorem dX5_letCome_44 : decode cX5_letCome 44 = .ok (.iload_n 3, 1) := by decide +kernel
theorem dX5_letCome_45 : decode cX5_letCome 45 = .ok (.iconst 0, 1) := by decide +kernel
theorem dX5_letCome_46 : decode cX5_letCome 46 = .ok (.iastore, 1) := by decide +kernel
theorem dX5_letCome_47 : decode cX5_letCome 47 = .ok (.aload_n 0, 1) := by decide +kernel
theorem dX5_letCome_48 : decode cX5_letCome 48 = .ok (.getfield 21, 3) := by decide +kernel
theorem dX5_letCome_51 : decode cX5_letCome 51 = .ok (.iload_n 3, 1) := by decide +kernel
theorem dX5_letCome_52 : decode cX5_letCome 52 = .ok (.iconst 0, 1) := by decide +kernel
theorem dX5_letCome_53 : decode cX5_letCome 53 = .ok (.iastore, 1) := by decide +kernel
theorem dX5_letCome_54 : decode cX5_letCome 54 = .ok (.aload_n 0, 1) := by decide +kernel
theorem dX5_letCome_55 : decode cX5_letCome 55 = .ok (.getfield 24, 3) := by decide +kernel
theorem dX5_letCome_58 : decode cX5_letCome 58 = .ok (.iload_n 3, 1) := by decide +kernel
theorem dX5_letCome_59 : decode cX5_letCome 59 = .ok (.iload_n 3, 1) := by decide +kernel
theorem dX5_letCome_60 : decode cX5_letCome 60 = .ok (.iastore, 1) := by decide +kernel
theorem dX5_letCome_61 : decode cX5_letCome 61 = .ok (.aload_n 0, 1) := by decide +kernel
theorem dX5_letCome_62 : decode cX5_letCome 62 = .ok (.invokevirtual 75, 3) := by decide +kernel
theorem dX5_letCome_65 : decode cX5_letCome 65 = .ok (.iload_n 3, 1) := by decide +kernel
theorem dX5_letCome_66 : decode cX5_letCome 66 = .ok (.ireturn, 1) := by decide +kernel
theorem dX5_giveUp_0 : decode cX5_giveUp 0 = .ok (.aload_n 0, 1) := by decide +kernel
theorem dX5_giveUp_1 : decode cX5_giveUp 1 = .ok (.iload_n 1, 1) := by decide +kernel
theorem dX5_giveUp_2 : decode cX5_giveUp 2 = .ok (.invokevirtual 44, 3) := by decide +kernel
theorem dX5_giveUp_5 : decode cX5_giveUp 5 = .ok (.ifCond .eq 23, 3) := by decide +kernel
theorem dX5_giveUp_8 : decode cX5_giveUp 8 = .ok (.aload_n 0, 1) := by decide +kernel
theorem dX5_giveUp_9 : decode cX5_giveUp 9 = .ok (.getfield 18, 3) := by decide +kernel
theorem dX5_giveUp_12 : decode cX5_giveUp 12 = .ok (.iload_n 1, 1) := by decide +kernel
theorem dX5_giveUp_13 : decode cX5_giveUp 13 = .ok (.iaload, 1) := by decide +kernel
theorem dX5_giveUp_14 : decode cX5_giveUp 14 = .ok (.ifCond .ne 14, 3) := by decide +kernel
theorem dX5_giveUp_17 : decode cX5_giveUp 17 = .ok (.aload_n 0, 1) := by decide +kernel
theorem dX5_giveUp_18 : decode cX5_giveUp 18 = .ok (.getfield 18, 3) := by decide +kernel
theorem dX5_giveUp_21 : decode cX5_giveUp 21 = .ok (.iload_n 1, 1) := by decide +kernel
theorem dX5_giveUp_22 : decode cX5_giveUp 22 = .ok (.iconst 3, 1) := by decide +kernel
theorem dX5_giveUp_23 : decode cX5_giveUp 23 = .ok (.iastore, 1) := by decide +kernel
theorem dX5_giveUp_24 : decode cX5_giveUp 24 = .ok (.aload_n 0, 1) := by decide +kernel
theorem dX5_giveUp_25 : decode cX5_giveUp 25 = .ok (.invokevirtual 75, 3) := by decide +kernel
theorem dX5_giveUp_28 : decode cX5_giveUp 28 = .ok (.return_, 1) := by decide +kernel
theorem dX5_letAhead_0 : decode cX5_letAhead 0 = .ok (.aload_n 0, 1) := by decide +kernel
theorem dX5_letAhead_1 : decode cX5_letAhead 1 = .ok (.iload_n 1, 1) := by decide +kernel
theorem dX5_letAhead_2 : decode cX5_letAhead 2 = .ok (.invokevirtual 44, 3) := by decide +kernel
theorem dX5_letAhead_5 : decode cX5_letAhead 5 = .ok (.ifCond .eq 12, 3) := by decide +kernel
theorem dX5_letAhead_8 : decode cX5_letAhead 8 = .ok (.aload_n 0, 1) := by decide +kernel
theorem dX5_letAhead_9 : decode cX5_letAhead 9 = .ok (.getfield 18, 3) := by decide +kernel
theorem dX5_letAhead_12 : decode cX5_letAhead 12 = .ok (.iload_n 1, 1) := by decide +kernel
theorem dX5_letAhead_13 : decode cX5_letAhead 13 = .ok (.iaload, 1) := by decide +kernel
theorem dX5_letAhead_14 : decode cX5_letAhead 14 = .ok (.ifCond .eq 4, 3) := by decide +kernel
theorem dX5_letAhead_17 : decode cX5_letAhead 17 = .ok (.return_, 1) := by decide +kernel
theorem dX5_letAhead_18 : decode cX5_letAhead 18 = .ok (.aload_n 0, 1) := by decide +kernel
theorem dX5_letAhead_19 : decode cX5_letAhead 19 = .ok (.aload_n 0, 1) := by decide +kernel
theorem dX5_letAhead_20 : decode cX5_letAhead 20 = .ok (.getfield 15, 3) := by decide +kernel
theorem dX5_letAhead_23 : decode cX5_letAhead 23 = .ok (.iload_n 1, 1) := by decide +kernel
theorem dX5_letAhead_24 : decode cX5_letAhead 24 = .ok (.iaload, 1) := by decide +kernel
theorem dX5_letAhead_25 : decode cX5_letAhead 25 = .ok (.invokevirtual 78, 3) := by decide +kernel
theorem dX5_letAhead_28 : decode cX5_letAhead 28 = .ok (.istore_n 2, 1) := by decide +kernel
theorem dX5_letAhead_29 : decode cX5_letAhead 29 = .ok (.iload_n 2, 1) := by decide +kernel
theorem dX5_letAhead_30 : decode cX5_letAhead 30 = .ok (.iconst (-1), 1) := by decide +kernel
theorem dX5_letAhead_31 : decode cX5_letAhead 31 = .ok (.if_icmp .eq 26, 3) := by decide +kernel
theorem dX5_letAhead_34 : decode cX5_letAhead 34 = .ok (.iload_n 2, 1) := by decide +kernel
theorem dX5_letAhead_35 : decode cX5_letAhead 35 = .ok (.iload_n 1, 1) := by decide +kernel
theorem dX5_letAhead_36 : decode cX5_letAhead 36 = .ok (.if_icmp .eq 21, 3) := by decide +kernel
theorem dX5_letAhead_39 : decode cX5_letAhead 39 = .ok (.aload_n 0, 1) := by decide +kernel
theorem dX5_letAhead_40 : decode cX5_letAhead 40 = .ok (.getfield 24, 3) := by decide +kernel
theorem dX5_letAhead_43 : decode cX5_letAhead 43 = .ok (.iload_n 1, 1) := by decide +kernel
theorem dX5_letAhead_44 : decode cX5_letAhead 44 = .ok (.aload_n 0, 1) := by decide +kernel
theorem dX5_letAhead_45 : decode cX5_letAhead 45 = .ok (.getfield 24, 3) := by decide +kernel
theorem dX5_letAhead_48 : decode cX5_letAhead 48 = .ok (.iload_n 2, 1) := by decide +kernel
theorem dX5_letAhead_49 : decode cX5_letAhead 49 = .ok (.iaload, 1) := by decide +kernel
theorem dX5_letAhead_50 : decode cX5_letAhead 50 = .ok (.iconst 1, 1) := by decide +kernel
theorem dX5_letAhead_51 : decode cX5_letAhead 51 = .ok (.isub, 1) := by decide +kernel
theorem dX5_letAhead_52 : decode cX5_letAhead 52 = .ok (.iastore, 1) := by decide +kernel
theorem dX5_letAhead_53 : decode cX5_letAhead 53 = .ok (.aload_n 0, 1) := by decide +kernel
theorem dX5_letAhead_54 : decode cX5_letAhead 54 = .ok (.invokevirtual 75, 3) := by decide +kernel
theorem dX5_letAhead_57 : decode cX5_letAhead 57 = .ok (.return_, 1) := by decide +kernel
theorem dX5_turn_0 : decode cX5_turn 0 = .ok (.aload_n 0, 1) := by decide +kernel
theorem dX5_turn_1 : decode cX5_turn 1 = .ok (.invokevirtual 81, 3) := by decide +kernel
theorem dX5_turn_4 : decode cX5_turn 4 = .ok (.istore_n 1, 1) := by decide +kernel
theorem dX5_turn_5 : decode cX5_turn 5 = .ok (.aload_n 0, 1) := by decide +kernel
theorem dX5_turn_6 : decode cX5_turn 6 = .ok (.dup, 1) := by decide +kernel
theorem dX5_turn_7 : decode cX5_turn 7 = .ok (.getfield 31, 3) := by decide +kernel
theorem dX5_turn_10 : decode cX5_turn 10 = .ok (.iconst 1, 1) := by decide +kernel
theorem dX5_turn_11 : decode cX5_turn 11 = .ok (.iadd, 1) := by decide +kernel
theorem dX5_turn_12 : decode cX5_turn 12 = .ok (.putfield 31, 3) := by decide +kernel
theorem dX5_turn_15 : decode cX5_turn 15 = .ok (.iload_n 1, 1) := by decide +kernel
theorem dX5_turn_16 : decode cX5_turn 16 = .ok (.ifCond .eq 5, 3) := by decide +kernel
theorem dX5_turn_19 : decode cX5_turn 19 = .ok (.iconst 0, 1) := by decide +kernel
theorem dX5_turn_20 : decode cX5_turn 20 = .ok (.ireturn, 1) := by decide +kernel
theorem dX5_turn_21 : decode cX5_turn 21 = .ok (.iconst 0, 1) := by decide +kernel
theorem dX5_turn_22 : decode cX5_turn 22 = .ok (.istore_n 2, 1) := by decide +kernel
theorem dX5_turn_23 : decode cX5_turn 23 = .ok (.iconst 0, 1) := by decide +kernel
theorem dX5_turn_24 : decode cX5_turn 24 = .ok (.istore_n 3, 1) := by decide +kernel
theorem dX5_turn_25 : decode cX5_turn 25 = .ok (.iload_n 3, 1) := by decide +kernel
theorem dX5_turn_26 : decode cX5_turn 26 = .ok (.aload_n 0, 1) := by decide +kernel
theorem dX5_turn_27 : decode cX5_turn 27 = .ok (.getfield 35, 3) := by decide +kernel
theorem dX5_turn_30 : decode cX5_turn 30 = .ok (.if_icmp .ge 30, 3) := by decide +kernel
theorem dX5_turn_33 : decode cX5_turn 33 = .ok (.aload_n 0, 1) := by decide +kernel
theorem dX5_turn_34 : decode cX5_turn 34 = .ok (.getfield 18, 3) := by decide +kernel
theorem dX5_turn_37 : decode cX5_turn 37 = .ok (.iload_n 3, 1) := by decide +kernel
theorem dX5_turn_38 : decode cX5_turn 38 = .ok (.iaload, 1) := by decide +kernel
theorem dX5_turn_39 : decode cX5_turn 39 = .ok (.iconst 1, 1) := by decide +kernel
theorem dX5_turn_40 : decode cX5_turn 40 = .ok (.if_icmp .ne 14, 3) := by decide +kernel
theorem dX5_turn_43 : decode cX5_turn 43 = .ok (.aload_n 0, 1) := by decide +kernel
theorem dX5_turn_44 : decode cX5_turn 44 = .ok (.iload_n 3, 1) := by decide +kernel
theorem dX5_turn_45 : decode cX5_turn 45 = .ok (.invokevirtual 85, 3) := by decide +kernel
theorem dX5_turn_48 : decode cX5_turn 48 = .ok (.ifCond .eq 6, 3) := by decide +kernel
theorem dX5_turn_51 : decode cX5_turn 51 = .ok (.iinc 2 1, 3) := by decide +kernel
theorem dX5_turn_54 : decode cX5_turn 54 = .ok (.iinc 3 1, 3) := by decide +kernel
theorem dX5_turn_57 : decode cX5_turn 57 = .ok (.goto (-32), 3) := by decide +kernel
theorem dX5_turn_60 : decode cX5_turn 60 = .ok (.aload_n 0, 1) := by decide +kernel
theorem dX5_turn_61 : decode cX5_turn 61 = .ok (.invokevirtual 75, 3) := by decide +kernel
theorem dX5_turn_64 : decode cX5_turn 64 = .ok (.iload_n 2, 1) := by decide +kernel
theorem dX5_turn_65 : decode cX5_turn 65 = .ok (.ireturn, 1) := by decide +kernel
theorem dX5_carry_0 : decode cX5_carry 0 = .ok (.aload_n 0, 1) := by decide +kernel
theorem dX5_carry_1 : decode cX5_carry 1 = .ok (.getfield 21, 3) := by decide +kernel
theorem dX5_carry_4 : decode cX5_carry 4 = .ok (.iload_n 1, 1) := by decide +kernel
theorem dX5_carry_5 : decode cX5_carry 5 = .ok (.aload_n 0, 1) := by decide +kernel
theorem dX5_carry_6 : decode cX5_carry 6 = .ok (.getfield 27, 3) := by decide +kernel
theorem dX5_carry_9 : decode cX5_carry 9 = .ok (.aload_n 0, 1) := by decide +kernel
theorem dX5_carry_10 : decode cX5_carry 10 = .ok (.getfield 21, 3) := by decide +kernel
theorem dX5_carry_13 : decode cX5_carry 13 = .ok (.iload_n 1, 1) := by decide +kernel
theorem dX5_carry_14 : decode cX5_carry 14 = .ok (.iaload, 1) := by decide +kernel
theorem dX5_carry_15 : decode cX5_carry 15 = .ok (.invokevirtual 88, 3) := by decide +kernel
theorem dX5_carry_18 : decode cX5_carry 18 = .ok (.iastore, 1) := by decide +kernel
theorem dX5_carry_19 : decode cX5_carry 19 = .ok (.aload_n 0, 1) := by decide +kernel
theorem dX5_carry_20 : decode cX5_carry 20 = .ok (.getfield 21, 3) := by decide +kernel
theorem dX5_carry_23 : decode cX5_carry 23 = .ok (.iload_n 1, 1) := by decide +kernel
theorem dX5_carry_24 : decode cX5_carry 24 = .ok (.iaload, 1) := by decide +kernel
theorem dX5_carry_25 : decode cX5_carry 25 = .ok (.aload_n 0, 1) := by decide +kernel
theorem dX5_carry_26 : decode cX5_carry 26 = .ok (.getfield 27, 3) := by decide +kernel
theorem dX5_carry_29 : decode cX5_carry 29 = .ok (.iconst 1, 1) := by decide +kernel
theorem dX5_carry_30 : decode cX5_carry 30 = .ok (.aload_n 0, 1) := by decide +kernel
theorem dX5_carry_31 : decode cX5_carry 31 = .ok (.getfield 15, 3) := by decide +kernel
theorem dX5_carry_34 : decode cX5_carry 34 = .ok (.iload_n 1, 1) := by decide +kernel
theorem dX5_carry_35 : decode cX5_carry 35 = .ok (.iaload, 1) := by decide +kernel
theorem dX5_carry_36 : decode cX5_carry 36 = .ok (.isub, 1) := by decide +kernel
theorem dX5_carry_37 : decode cX5_carry 37 = .ok (.invokevirtual 91, 3) := by decide +kernel
theorem dX5_carry_40 : decode cX5_carry 40 = .ok (.if_icmp .ne 7, 3) := by decide +kernel
theorem dX5_carry_43 : decode cX5_carry 43 = .ok (.iconst 1, 1) := by decide +kernel
theorem dX5_carry_44 : decode cX5_carry 44 = .ok (.goto 4, 3) := by decide +kernel
theorem dX5_carry_47 : decode cX5_carry 47 = .ok (.iconst 0, 1) := by decide +kernel
theorem dX5_carry_48 : decode cX5_carry 48 = .ok (.istore_n 2, 1) := by decide +kernel
theorem dX5_carry_49 : decode cX5_carry 49 = .ok (.iload_n 2, 1) := by decide +kernel
theorem dX5_carry_50 : decode cX5_carry 50 = .ok (.ifCond .eq 10, 3) := by decide +kernel
theorem dX5_carry_53 : decode cX5_carry 53 = .ok (.aload_n 0, 1) := by decide +kernel
theorem dX5_carry_54 : decode cX5_carry 54 = .ok (.getfield 18, 3) := by decide +kernel
theorem dX5_carry_57 : decode cX5_carry 57 = .ok (.iload_n 1, 1) := by decide +kernel
theorem dX5_carry_58 : decode cX5_carry 58 = .ok (.iconst 2, 1) := by decide +kernel
theorem dX5_carry_59 : decode cX5_carry 59 = .ok (.iastore, 1) := by decide +kernel
theorem dX5_carry_60 : decode cX5_carry 60 = .ok (.iload_n 2, 1) := by decide +kernel
theorem dX5_carry_61 : decode cX5_carry 61 = .ok (.ireturn, 1) := by decide +kernel
theorem dX5_fill_0 : decode cX5_fill 0 = .ok (.iconst 0, 1) := by decide +kernel
theorem dX5_fill_1 : decode cX5_fill 1 = .ok (.istore_n 1, 1) := by decide +kernel
theorem dX5_fill_2 : decode cX5_fill 2 = .ok (.iload_n 1, 1) := by decide +kernel
theorem dX5_fill_3 : decode cX5_fill 3 = .ok (.iconst 1, 1) := by decide +kernel
theorem dX5_fill_4 : decode cX5_fill 4 = .ok (.if_icmp .gt 110, 3) := by decide +kernel
theorem dX5_fill_7 : decode cX5_fill 7 = .ok (.aload_n 0, 1) := by decide +kernel
theorem dX5_fill_8 : decode cX5_fill 8 = .ok (.getfield 27, 3) := by decide +kernel
theorem dX5_fill_11 : decode cX5_fill 11 = .ok (.iload_n 1, 1) := by decide +kernel
theorem dX5_fill_12 : decode cX5_fill 12 = .ok (.invokevirtual 91, 3) := by decide +kernel
theorem dX5_fill_15 : decode cX5_fill 15 = .ok (.istore_n 2, 1) := by decide +kernel
theorem dX5_fill_16 : decode cX5_fill 16 = .ok (.aload_n 0, 1) := by decide +kernel
theorem dX5_fill_17 : decode cX5_fill 17 = .ok (.getfield 27, 3) := by decide +kernel
theorem dX5_fill_20 : decode cX5_fill 20 = .ok (.getfield 94, 3) := by decide +kernel
theorem dX5_fill_23 : decode cX5_fill 23 = .ok (.aload_n 0, 1) := by decide +kernel
theorem dX5_fill_24 : decode cX5_fill 24 = .ok (.iload_n 2, 1) := by decide +kernel
theorem dX5_fill_25 : decode cX5_fill 25 = .ok (.invokevirtual 97, 3) := by decide +kernel
theorem dX5_fill_28 : decode cX5_fill 28 = .ok (.isub, 1) := by decide +kernel
theorem dX5_fill_29 : decode cX5_fill 29 = .ok (.istore_n 3, 1) := by decide +kernel
theorem dX5_fill_30 : decode cX5_fill 30 = .ok (.aload_n 0, 1) := by decide +kernel
theorem dX5_fill_31 : decode cX5_fill 31 = .ok (.iload_n 1, 1) := by decide +kernel
theorem dX5_fill_32 : decode cX5_fill 32 = .ok (.invokevirtual 78, 3) := by decide +kernel
theorem dX5_fill_35 : decode cX5_fill 35 = .ok (.istore 4, 2) := by decide +kernel
theorem dX5_fill_37 : decode cX5_fill 37 = .ok (.iconst 0, 1) := by decide +kernel
theorem dX5_fill_38 : decode cX5_fill 38 = .ok (.istore 5, 2) := by decide +kernel
theorem dX5_fill_40 : decode cX5_fill 40 = .ok (.iload 5, 2) := by decide +kernel
theorem dX5_fill_42 : decode cX5_fill 42 = .ok (.aload_n 0, 1) := by decide +kernel
theorem dX5_fill_43 : decode cX5_fill 43 = .ok (.getfield 35, 3) := by decide +kernel
theorem dX5_fill_46 : decode cX5_fill 46 = .ok (.if_icmp .ge 62, 3) := by decide +kernel
theorem dX5_fill_49 : decode cX5_fill 49 = .ok (.iload 4, 2) := by decide +kernel
theorem dX5_fill_51 : decode cX5_fill 51 = .ok (.iconst (-1), 1) := by decide +kernel
theorem dX5_fill_52 : decode cX5_fill 52 = .ok (.if_icmp .eq 56, 3) := by decide +kernel
theorem dX5_fill_55 : decode cX5_fill 55 = .ok (.iload_n 3, 1) := by decide +kernel
theorem dX5_fill_56 : decode cX5_fill 56 = .ok (.aload_n 0, 1) := by decide +kernel
theorem dX5_fill_57 : decode cX5_fill 57 = .ok (.getfield 27, 3) := by decide +kernel
theorem dX5_fill_60 : decode cX5_fill 60 = .ok (.aload_n 0, 1) := by decide +kernel
theorem dX5_fill_61 : decode cX5_fill 61 = .ok (.getfield 9, 3) := by decide +kernel
theorem dX5_fill_64 : decode cX5_fill 64 = .ok (.iload 4, 2) := by decide +kernel
theorem dX5_fill_66 : decode cX5_fill 66 = .ok (.iaload, 1) := by decide +kernel
theorem dX5_fill_67 : decode cX5_fill 67 = .ok (.invokevirtual 48, 3) := by decide +kernel
theorem dX5_fill_70 : decode cX5_fill 70 = .ok (.isub, 1) := by decide +kernel
theorem dX5_fill_71 : decode cX5_fill 71 = .ok (.istore_n 3, 1) := by decide +kernel
theorem dX5_fill_72 : decode cX5_fill 72 = .ok (.iload_n 3, 1) := by decide +kernel
theorem dX5_fill_73 : decode cX5_fill 73 = .ok (.ifCond .ge 6, 3) := by decide +kernel
theorem dX5_fill_76 : decode cX5_fill 76 = .ok (.goto 32, 3) := by decide +kernel
theorem dX5_fill_79 : decode cX5_fill 79 = .ok (.aload_n 0, 1) := by decide +kernel
theorem dX5_fill_80 : decode cX5_fill 80 = .ok (.getfield 18, 3) := by decide +kernel
theorem dX5_fill_83 : decode cX5_fill 83 = .ok (.iload 4, 2) := by decide +kernel
theorem dX5_fill_85 : decode cX5_fill 85 = .ok (.iconst 1, 1) := by decide +kernel
theorem dX5_fill_86 : decode cX5_fill 86 = .ok (.iastore, 1) := by decide +kernel
theorem dX5_fill_87 : decode cX5_fill 87 = .ok (.aload_n 0, 1) := by decide +kernel
theorem dX5_fill_88 : decode cX5_fill 88 = .ok (.getfield 21, 3) := by decide +kernel
theorem dX5_fill_91 : decode cX5_fill 91 = .ok (.iload 4, 2) := by decide +kernel
theorem dX5_fill_93 : decode cX5_fill 93 = .ok (.iload_n 2, 1) := by decide +kernel
theorem dX5_fill_94 : decode cX5_fill 94 = .ok (.iastore, 1) := by decide +kernel
theorem dX5_fill_95 : decode cX5_fill 95 = .ok (.aload_n 0, 1) := by decide +kernel
theorem dX5_fill_96 : decode cX5_fill 96 = .ok (.iload_n 1, 1) := by decide +kernel
theorem dX5_fill_97 : decode cX5_fill 97 = .ok (.invokevirtual 78, 3) := by decide +kernel
theorem dX5_fill_100 : decode cX5_fill 100 = .ok (.istore 4, 2) := by decide +kernel
theorem dX5_fill_102 : decode cX5_fill 102 = .ok (.iinc 5 1, 3) := by decide +kernel
theorem dX5_fill_105 : decode cX5_fill 105 = .ok (.goto (-65), 3) := by decide +kernel
theorem dX5_fill_108 : decode cX5_fill 108 = .ok (.iinc 1 1, 3) := by decide +kernel
theorem dX5_fill_111 : decode cX5_fill 111 = .ok (.goto (-109), 3) := by decide +kernel
theorem dX5_fill_114 : decode cX5_fill 114 = .ok (.return_, 1) := by decide +kernel
theorem dX5_runUntilThrough_0 : decode cX5_runUntilThrough 0 = .ok (.iconst 0, 1) := by decide +kernel
theorem dX5_runUntilThrough_1 : decode cX5_runUntilThrough 1 = .ok (.istore_n 2, 1) := by decide +kernel
theorem dX5_runUntilThrough_2 : decode cX5_runUntilThrough 2 = .ok (.iload_n 2, 1) := by decide +kernel
theorem dX5_runUntilThrough_3 : decode cX5_runUntilThrough 3 = .ok (.bipush 60, 2) := by decide +kernel
theorem dX5_runUntilThrough_5 : decode cX5_runUntilThrough 5 = .ok (.if_icmp .gt 44, 3) := by decide +kernel
theorem dX5_runUntilThrough_8 : decode cX5_runUntilThrough 8 = .ok (.aload_n 0, 1) := by decide +kernel
theorem dX5_runUntilThrough_9 : decode cX5_runUntilThrough 9 = .ok (.iload_n 1, 1) := by decide +kernel
theorem dX5_runUntilThrough_10 : decode cX5_runUntilThrough 10 = .ok (.invokevirtual 44, 3) := by decide +kernel
theorem dX5_runUntilThrough_13 : decode cX5_runUntilThrough 13 = .ok (.ifCond .eq 36, 3) := by decide +kernel
theorem dX5_runUntilThrough_16 : decode cX5_runUntilThrough 16 = .ok (.aload_n 0, 1) := by decide +kernel
theorem dX5_runUntilThrough_17 : decode cX5_runUntilThrough 17 = .ok (.getfield 18, 3) := by decide +kernel
theorem dX5_runUntilThrough_20 : decode cX5_runUntilThrough 20 = .ok (.iload_n 1, 1) := by decide +kernel
theorem dX5_runUntilThrough_21 : decode cX5_runUntilThrough 21 = .ok (.iaload, 1) := by decide +kernel
theorem dX5_runUntilThrough_22 : decode cX5_runUntilThrough 22 = .ok (.iconst 2, 1) := by decide +kernel
theorem dX5_runUntilThrough_23 : decode cX5_runUntilThrough 23 = .ok (.if_icmp .ne 5, 3) := by decide +kernel
theorem dX5_runUntilThrough_26 : decode cX5_runUntilThrough 26 = .ok (.iload_n 2, 1) := by decide +kernel
theorem dX5_runUntilThrough_27 : decode cX5_runUntilThrough 27 = .ok (.ireturn, 1) := by decide +kernel
theorem dX5_runUntilThrough_28 : decode cX5_runUntilThrough 28 = .ok (.aload_n 0, 1) := by decide +kernel
theorem dX5_runUntilThrough_29 : decode cX5_runUntilThrough 29 = .ok (.invokevirtual 81, 3) := by decide +kernel
theorem dX5_runUntilThrough_32 : decode cX5_runUntilThrough 32 = .ok (.ifCond .eq 6, 3) := by decide +kernel
theorem dX5_runUntilThrough_35 : decode cX5_runUntilThrough 35 = .ok (.bipush 61, 2) := by decide +kernel
theorem dX5_runUntilThrough_37 : decode cX5_runUntilThrough 37 = .ok (.ireturn, 1) := by decide +kernel
theorem dX5_runUntilThrough_38 : decode cX5_runUntilThrough 38 = .ok (.aload_n 0, 1) := by decide +kernel
theorem dX5_runUntilThrough_39 : decode cX5_runUntilThrough 39 = .ok (.invokevirtual 100, 3) := by decide +kernel
theorem dX5_runUntilThrough_42 : decode cX5_runUntilThrough 42 = .ok (.pop, 1) := by decide +kernel
theorem dX5_runUntilThrough_43 : decode cX5_runUntilThrough 43 = .ok (.iinc 2 1, 3) := by decide +kernel
theorem dX5_runUntilThrough_46 : decode cX5_runUntilThrough 46 = .ok (.goto (-44), 3) := by decide +kernel
theorem dX5_runUntilThrough_49 : decode cX5_runUntilThrough 49 = .ok (.bipush 61, 2) := by decide +kernel
theorem dX5_runUntilThrough_51 : decode cX5_runUntilThrough 51 = .ok (.ireturn, 1) := by decide +kernel
theorem dX5_runUntilItSticks_0 : decode cX5_runUntilItSticks 0 = .ok (.iconst 0, 1) := by decide +kernel
theorem dX5_runUntilItSticks_1 : decode cX5_runUntilItSticks 1 = .ok (.istore_n 1, 1) := by decide +kernel
theorem dX5_runUntilItSticks_2 : decode cX5_runUntilItSticks 2 = .ok (.iload_n 1, 1) := by decide +kernel
theorem dX5_runUntilItSticks_3 : decode cX5_runUntilItSticks 3 = .ok (.bipush 60, 2) := by decide +kernel
theorem dX5_runUntilItSticks_5 : decode cX5_runUntilItSticks 5 = .ok (.if_icmp .gt 23, 3) := by decide +kernel
theorem dX5_runUntilItSticks_8 : decode cX5_runUntilItSticks 8 = .ok (.aload_n 0, 1) := by decide +kernel
theorem dX5_runUntilItSticks_9 : decode cX5_runUntilItSticks 9 = .ok (.invokevirtual 81, 3) := by decide +kernel
theorem dX5_runUntilItSticks_12 : decode cX5_runUntilItSticks 12 = .ok (.ifCond .eq 5, 3) := by decide +kernel
theorem dX5_runUntilItSticks_15 : decode cX5_runUntilItSticks 15 = .ok (.iload_n 1, 1) := by decide +kernel
theorem dX5_runUntilItSticks_16 : decode cX5_runUntilItSticks 16 = .ok (.ireturn, 1) := by decide +kernel
theorem dX5_runUntilItSticks_17 : decode cX5_runUntilItSticks 17 = .ok (.aload_n 0, 1) := by decide +kernel
theorem dX5_runUntilItSticks_18 : decode cX5_runUntilItSticks 18 = .ok (.invokevirtual 100, 3) := by decide +kernel
theorem dX5_runUntilItSticks_21 : decode cX5_runUntilItSticks 21 = .ok (.pop, 1) := by decide +kernel
theorem dX5_runUntilItSticks_22 : decode cX5_runUntilItSticks 22 = .ok (.iinc 1 1, 3) := by decide +kernel
theorem dX5_runUntilItSticks_25 : decode cX5_runUntilItSticks 25 = .ok (.goto (-23), 3) := by decide +kernel
theorem dX5_runUntilItSticks_28 : decode cX5_runUntilItSticks 28 = .ok (.bipush 61, 2) := by decide +kernel
theorem dX5_runUntilItSticks_30 : decode cX5_runUntilItSticks 30 = .ok (.ireturn, 1) := by decide +kernel
theorem dX5_runUntilEmpty_0 : decode cX5_runUntilEmpty 0 = .ok (.iconst 0, 1) := by decide +kernel
theorem dX5_runUntilEmpty_1 : decode cX5_runUntilEmpty 1 = .ok (.istore_n 1, 1) := by decide +kernel
theorem dX5_runUntilEmpty_2 : decode cX5_runUntilEmpty 2 = .ok (.iload_n 1, 1) := by decide +kernel
theorem dX5_runUntilEmpty_3 : decode cX5_runUntilEmpty 3 = .ok (.bipush 60, 2) := by decide +kernel
theorem dX5_runUntilEmpty_5 : decode cX5_runUntilEmpty 5 = .ok (.if_icmp .gt 42, 3) := by decide +kernel
theorem dX5_runUntilEmpty_8 : decode cX5_runUntilEmpty 8 = .ok (.aload_n 0, 1) := by decide +kernel
theorem dX5_runUntilEmpty_9 : decode cX5_runUntilEmpty 9 = .ok (.iconst 0, 1) := by decide +kernel
theorem dX5_runUntilEmpty_10 : decode cX5_runUntilEmpty 10 = .ok (.invokevirtual 57, 3) := by decide +kernel
theorem dX5_runUntilEmpty_13 : decode cX5_runUntilEmpty 13 = .ok (.ifCond .ne 13, 3) := by decide +kernel
theorem dX5_runUntilEmpty_16 : decode cX5_runUntilEmpty 16 = .ok (.aload_n 0, 1) := by decide +kernel
theorem dX5_runUntilEmpty_17 : decode cX5_runUntilEmpty 17 = .ok (.iconst 1, 1) := by decide +kernel
theorem dX5_runUntilEmpty_18 : decode cX5_runUntilEmpty 18 = .ok (.invokevirtual 57, 3) := by decide +kernel
theorem dX5_runUntilEmpty_21 : decode cX5_runUntilEmpty 21 = .ok (.ifCond .ne 5, 3) := by decide +kernel
theorem dX5_runUntilEmpty_24 : decode cX5_runUntilEmpty 24 = .ok (.iload_n 1, 1) := by decide +kernel
theorem dX5_runUntilEmpty_25 : decode cX5_runUntilEmpty 25 = .ok (.ireturn, 1) := by decide +kernel
theorem dX5_runUntilEmpty_26 : decode cX5_runUntilEmpty 26 = .ok (.aload_n 0, 1) := by decide +kernel
theorem dX5_runUntilEmpty_27 : decode cX5_runUntilEmpty 27 = .ok (.invokevirtual 81, 3) := by decide +kernel
theorem dX5_runUntilEmpty_30 : decode cX5_runUntilEmpty 30 = .ok (.ifCond .eq 6, 3) := by decide +kernel
theorem dX5_runUntilEmpty_33 : decode cX5_runUntilEmpty 33 = .ok (.bipush 61, 2) := by decide +kernel
theorem dX5_runUntilEmpty_35 : decode cX5_runUntilEmpty 35 = .ok (.ireturn, 1) := by decide +kernel
theorem dX5_runUntilEmpty_36 : decode cX5_runUntilEmpty 36 = .ok (.aload_n 0, 1) := by decide +kernel
theorem dX5_runUntilEmpty_37 : decode cX5_runUntilEmpty 37 = .ok (.invokevirtual 100, 3) := by decide +kernel
theorem dX5_runUntilEmpty_40 : decode cX5_runUntilEmpty 40 = .ok (.pop, 1) := by decide +kernel
theorem dX5_runUntilEmpty_41 : decode cX5_runUntilEmpty 41 = .ok (.iinc 1 1, 3) := by decide +kernel
theorem dX5_runUntilEmpty_44 : decode cX5_runUntilEmpty 44 = .ok (.goto (-42), 3) := by decide +kernel
theorem dX5_runUntilEmpty_47 : decode cX5_runUntilEmpty 47 = .ok (.bipush 61, 2) := by decide +kernel
theorem dX5_runUntilEmpty_49 : decode cX5_runUntilEmpty 49 = .ok (.ireturn, 1) := by decide +kernel
theorem dX6_init_0 : decode cX6_init 0 = .ok (.aload_n 0, 1) := by decide +kernel
theorem dX6_init_1 : decode cX6_init 1 = .ok (.invokespecial 3, 3) := by decide +kernel
theorem dX6_init_4 : decode cX6_init 4 = .ok (.aload_n 0, 1) := by decide +kernel
theorem dX6_init_5 : decode cX6_init 5 = .ok (.bipush 10, 2) := by decide +kernel
theorem dX6_init_7 : decode cX6_init 7 = .ok (.anewarray 9, 3) := by decide +kernel
theorem dX6_init_10 : decode cX6_init 10 = .ok (.putfield 11, 3) := by decide +kernel
theorem dX6_init_13 : decode cX6_init 13 = .ok (.iconst 0, 1) := by decide +kernel
theorem dX6_init_14 : decode cX6_init 14 = .ok (.istore_n 2, 1) := by decide +kernel
theorem dX6_init_15 : decode cX6_init 15 = .ok (.iload_n 2, 1) := by decide +kernel
theorem dX6_init_16 : decode cX6_init 16 = .ok (.bipush 10, 2) := by decide +kernel
theorem dX6_init_18 : decode cX6_init 18 = .ok (.if_icmp .ge 23, 3) := by decide +kernel
theorem dX6_init_21 : decode cX6_init 21 = .ok (.aload_n 0, 1) := by decide +kernel
theorem dX6_init_22 : decode cX6_init 22 = .ok (.getfield 11, 3) := by decide +kernel
theorem dX6_init_25 : decode cX6_init 25 = .ok (.iload_n 2, 1) := by decide +kernel
theorem dX6_init_26 : decode cX6_init 26 = .ok (.new 9, 3) := by decide +kernel
theorem dX6_init_29 : decode cX6_init 29 = .ok (.dup, 1) := by decide +kernel
theorem dX6_init_30 : decode cX6_init 30 = .ok (.aload_n 1, 1) := by decide +kernel
theorem dX6_init_31 : decode cX6_init 31 = .ok (.invokespecial 17, 3) := by decide +kernel
theorem dX6_init_34 : decode cX6_init 34 = .ok (.aastore, 1) := by decide +kernel
theorem dX6_init_35 : decode cX6_init 35 = .ok (.iinc 2 1, 3) := by decide +kernel
theorem dX6_init_38 : decode cX6_init 38 = .ok (.goto (-23), 3) := by decide +kernel
theorem dX6_init_41 : decode cX6_init 41 = .ok (.return_, 1) := by decide +kernel
theorem dX6_remember_0 : decode cX6_remember 0 = .ok (.aload_n 0, 1) := by decide +kernel
theorem dX6_remember_1 : decode cX6_remember 1 = .ok (.getfield 11, 3) := by decide +kernel
theorem dX6_remember_4 : decode cX6_remember 4 = .ok (.aload_n 0, 1) := by decide +kernel
theorem dX6_remember_5 : decode cX6_remember 5 = .ok (.getfield 20, 3) := by decide +kernel
theorem dX6_remember_8 : decode cX6_remember 8 = .ok (.aload_n 0, 1) := by decide +kernel
theorem dX6_remember_9 : decode cX6_remember 9 = .ok (.getfield 24, 3) := by decide +kernel
theorem dX6_remember_12 : decode cX6_remember 12 = .ok (.iadd, 1) := by decide +kernel
theorem dX6_remember_13 : decode cX6_remember 13 = .ok (.bipush 10, 2) := by decide +kernel
theorem dX6_remember_15 : decode cX6_remember 15 = .ok (.irem, 1) := by decide +kernel
theorem dX6_remember_16 : decode cX6_remember 16 = .ok (.aaload, 1) := by decide +kernel
theorem dX6_remember_17 : decode cX6_remember 17 = .ok (.aload_n 1, 1) := by decide +kernel
theorem dX6_remember_18 : decode cX6_remember 18 = .ok (.invokevirtual 27, 3) := by decide +kernel
theorem dX6_remember_21 : decode cX6_remember 21 = .ok (.aload_n 0, 1) := by decide +kernel
theorem dX6_remember_22 : decode cX6_remember 22 = .ok (.getfield 24, 3) := by decide +kernel
theorem dX6_remember_25 : decode cX6_remember 25 = .ok (.bipush 10, 2) := by decide +kernel
theorem dX6_remember_27 : decode cX6_remember 27 = .ok (.if_icmp .ge 16, 3) := by decide +kernel
theorem dX6_remember_30 : decode cX6_remember 30 = .ok (.aload_n 0, 1) := by decide +kernel
theorem dX6_remember_31 : decode cX6_remember 31 = .ok (.dup, 1) := by decide +kernel
theorem dX6_remember_32 : decode cX6_remember 32 = .ok (.getfield 24, 3) := by decide +kernel
theorem dX6_remember_35 : decode cX6_remember 35 = .ok (.iconst 1, 1) := by decide +kernel
theorem dX6_remember_36 : decode cX6_remember 36 = .ok (.iadd, 1) := by decide +kernel
theorem dX6_remember_37 : decode cX6_remember 37 = .ok (.putfield 24, 3) := by decide +kernel
theorem dX6_remember_40 : decode cX6_remember 40 = .ok (.goto 16, 3) := by decide +kernel
theorem dX6_remember_43 : decode cX6_remember 43 = .ok (.aload_n 0, 1) := by decide +kernel
theorem dX6_remember_44 : decode cX6_remember 44 = .ok (.aload_n 0, 1) := by decide +kernel
theorem dX6_remember_45 : decode cX6_remember 45 = .ok (.getfield 20, 3) := by decide +kernel
theorem dX6_remember_48 : decode cX6_remember 48 = .ok (.iconst 1, 1) := by decide +kernel
theorem dX6_remember_49 : decode cX6_remember 49 = .ok (.iadd, 1) := by decide +kernel
theorem dX6_remember_50 : decode cX6_remember 50 = .ok (.bipush 10, 2) := by decide +kernel
theorem dX6_remember_52 : decode cX6_remember 52 = .ok (.irem, 1) := by decide +kernel
theorem dX6_remember_53 : decode cX6_remember 53 = .ok (.putfield 20, 3) := by decide +kernel
theorem dX6_remember_56 : decode cX6_remember 56 = .ok (.return_, 1) := by decide +kernel
theorem dX6_recall_0 : decode cX6_recall 0 = .ok (.aload_n 0, 1) := by decide +kernel
theorem dX6_recall_1 : decode cX6_recall 1 = .ok (.getfield 24, 3) := by decide +kernel
theorem dX6_recall_4 : decode cX6_recall 4 = .ok (.ifCond .le 34, 3) := by decide +kernel
theorem dX6_recall_7 : decode cX6_recall 7 = .ok (.aload_n 0, 1) := by decide +kernel
theorem dX6_recall_8 : decode cX6_recall 8 = .ok (.dup, 1) := by decide +kernel
theorem dX6_recall_9 : decode cX6_recall 9 = .ok (.getfield 24, 3) := by decide +kernel
theorem dX6_recall_12 : decode cX6_recall 12 = .ok (.iconst 1, 1) := by decide +kernel
theorem dX6_recall_13 : decode cX6_recall 13 = .ok (.isub, 1) := by decide +kernel
theorem dX6_recall_14 : decode cX6_recall 14 = .ok (.putfield 24, 3) := by decide +kernel
theorem dX6_recall_17 : decode cX6_recall 17 = .ok (.aload_n 1, 1) := by decide +kernel
theorem dX6_recall_18 : decode cX6_recall 18 = .ok (.aload_n 0, 1) := by decide +kernel
theorem dX6_recall_19 : decode cX6_recall 19 = .ok (.getfield 11, 3) := by decide +kernel
theorem dX6_recall_22 : decode cX6_recall 22 = .ok (.aload_n 0, 1) := by decide +kernel
theorem dX6_recall_23 : decode cX6_recall 23 = .ok (.getfield 20, 3) := by decide +kernel
theorem dX6_recall_26 : decode cX6_recall 26 = .ok (.aload_n 0, 1) := by decide +kernel
theorem dX6_recall_27 : decode cX6_recall 27 = .ok (.getfield 24, 3) := by decide +kernel
theorem dX6_recall_30 : decode cX6_recall 30 = .ok (.iadd, 1) := by decide +kernel
theorem dX6_recall_31 : decode cX6_recall 31 = .ok (.bipush 10, 2) := by decide +kernel
theorem dX6_recall_33 : decode cX6_recall 33 = .ok (.irem, 1) := by decide +kernel
theorem dX6_recall_34 : decode cX6_recall 34 = .ok (.aaload, 1) := by decide +kernel
theorem dX6_recall_35 : decode cX6_recall 35 = .ok (.invokevirtual 27, 3) := by decide +kernel
theorem dX6_recall_38 : decode cX6_recall 38 = .ok (.return_, 1) := by decide +kernel
theorem dX7_init_0 : decode cX7_init 0 = .ok (.aload_n 0, 1) := by decide +kernel
theorem dX7_init_1 : decode cX7_init 1 = .ok (.invokespecial 3, 3) := by decide +kernel
theorem dX7_init_4 : decode cX7_init 4 = .ok (.aload_n 0, 1) := by decide +kernel
theorem dX7_init_5 : decode cX7_init 5 = .ok (.bipush 6, 2) := by decide +kernel
theorem dX7_init_7 : decode cX7_init 7 = .ok (.newarray .int, 2) := by decide +kernel
theorem dX7_init_9 : decode cX7_init 9 = .ok (.putfield 9, 3) := by decide +kernel
theorem dX7_init_12 : decode cX7_init 12 = .ok (.aload_n 0, 1) := by decide +kernel
theorem dX7_init_13 : decode cX7_init 13 = .ok (.bipush 6, 2) := by decide +kernel
theorem dX7_init_15 : decode cX7_init 15 = .ok (.newarray .int, 2) := by decide +kernel
theorem dX7_init_17 : decode cX7_init 17 = .ok (.putfield 15, 3) := by decide +kernel
theorem dX7_init_20 : decode cX7_init 20 = .ok (.aload_n 0, 1) := by decide +kernel
theorem dX7_init_21 : decode cX7_init 21 = .ok (.invokevirtual 18, 3) := by decide +kernel
theorem dX7_init_24 : decode cX7_init 24 = .ok (.return_, 1) := by decide +kernel
theorem dX7_setFirst_0 : decode cX7_setFirst 0 = .ok (.aload_n 0, 1) := by decide +kernel
theorem dX7_setFirst_1 : decode cX7_setFirst 1 = .ok (.iconst 4, 1) := by decide +kernel
theorem dX7_setFirst_2 : decode cX7_setFirst 2 = .ok (.putfield 21, 3) := by decide +kernel
theorem dX7_setFirst_5 : decode cX7_setFirst 5 = .ok (.aload_n 0, 1) := by decide +kernel
theorem dX7_setFirst_6 : decode cX7_setFirst 6 = .ok (.iconst 2, 1) := by decide +kernel
theorem dX7_setFirst_7 : decode cX7_setFirst 7 = .ok (.putfield 25, 3) := by decide +kernel
theorem dX7_setFirst_10 : decode cX7_setFirst 10 = .ok (.aload_n 0, 1) := by decide +kernel
theorem dX7_setFirst_11 : decode cX7_setFirst 11 = .ok (.iconst 3, 1) := by decide +kernel
theorem dX7_setFirst_12 : decode cX7_setFirst 12 = .ok (.putfield 28, 3) := by decide +kernel
theorem dX7_setFirst_15 : decode cX7_setFirst 15 = .ok (.aload_n 0, 1) := by decide +kernel
theorem dX7_setFirst_16 : decode cX7_setFirst 16 = .ok (.iconst 0, 1) := by decide +kernel
theorem dX7_setFirst_17 : decode cX7_setFirst 17 = .ok (.putfield 31, 3) := by decide +kernel
theorem dX7_setFirst_20 : decode cX7_setFirst 20 = .ok (.return_, 1) := by decide +kernel
theorem dX7_copy_0 : decode cX7_copy 0 = .ok (.aload_n 0, 1) := by decide +kernel
theorem dX7_copy_1 : decode cX7_copy 1 = .ok (.aload_n 1, 1) := by decide +kernel
theorem dX7_copy_2 : decode cX7_copy 2 = .ok (.getfield 21, 3) := by decide +kernel
theorem dX7_copy_5 : decode cX7_copy 5 = .ok (.putfield 21, 3) := by decide +kernel
theorem dX7_copy_8 : decode cX7_copy 8 = .ok (.aload_n 0, 1) := by decide +kernel
theorem dX7_copy_9 : decode cX7_copy 9 = .ok (.aload_n 1, 1) := by decide +kernel
theorem dX7_copy_10 : decode cX7_copy 10 = .ok (.getfield 25, 3) := by decide +kernel
theorem dX7_copy_13 : decode cX7_copy 13 = .ok (.putfield 25, 3) := by decide +kernel
theorem dX7_copy_16 : decode cX7_copy 16 = .ok (.aload_n 0, 1) := by decide +kernel
theorem dX7_copy_17 : decode cX7_copy 17 = .ok (.aload_n 1, 1) := by decide +kernel
theorem dX7_copy_18 : decode cX7_copy 18 = .ok (.getfield 28, 3) := by decide +kernel
theorem dX7_copy_21 : decode cX7_copy 21 = .ok (.putfield 28, 3) := by decide +kernel
theorem dX7_copy_24 : decode cX7_copy 24 = .ok (.aload_n 0, 1) := by decide +kernel
theorem dX7_copy_25 : decode cX7_copy 25 = .ok (.aload_n 1, 1) := by decide +kernel
theorem dX7_copy_26 : decode cX7_copy 26 = .ok (.getfield 31, 3) := by decide +kernel
theorem dX7_copy_29 : decode cX7_copy 29 = .ok (.putfield 31, 3) := by decide +kernel
theorem dX7_copy_32 : decode cX7_copy 32 = .ok (.aload_n 1, 1) := by decide +kernel
theorem dX7_copy_33 : decode cX7_copy 33 = .ok (.getfield 9, 3) := by decide +kernel
theorem dX7_copy_36 : decode cX7_copy 36 = .ok (.iconst 0, 1) := by decide +kernel
theorem dX7_copy_37 : decode cX7_copy 37 = .ok (.aload_n 0, 1) := by decide +kernel
theorem dX7_copy_38 : decode cX7_copy 38 = .ok (.getfield 9, 3) := by decide +kernel
theorem dX7_copy_41 : decode cX7_copy 41 = .ok (.iconst 0, 1) := by decide +kernel
theorem dX7_copy_42 : decode cX7_copy 42 = .ok (.bipush 6, 2) := by decide +kernel
theorem dX7_copy_44 : decode cX7_copy 44 = .ok (.invokestatic 34, 3) := by decide +kernel
theorem dX7_copy_47 : decode cX7_copy 47 = .ok (.aload_n 1, 1) := by decide +kernel
theorem dX7_copy_48 : decode cX7_copy 48 = .ok (.getfield 15, 3) := by decide +kernel
theorem dX7_copy_51 : decode cX7_copy 51 = .ok (.iconst 0, 1) := by decide +kernel
theorem dX7_copy_52 : decode cX7_copy 52 = .ok (.aload_n 0, 1) := by decide +kernel
theorem dX7_copy_53 : decode cX7_copy 53 = .ok (.getfield 15, 3) := by decide +kernel
theorem dX7_copy_56 : decode cX7_copy 56 = .ok (.iconst 0, 1) := by decide +kernel
theorem dX7_copy_57 : decode cX7_copy 57 = .ok (.bipush 6, 2) := by decide +kernel
theorem dX7_copy_59 : decode cX7_copy 59 = .ok (.invokestatic 34, 3) := by decide +kernel
theorem dX7_copy_62 : decode cX7_copy 62 = .ok (.return_, 1) := by decide +kernel
theorem dX7_addSort_0 : decode cX7_addSort 0 = .ok (.aload_n 0, 1) := by decide +kernel
theorem dX7_addSort_1 : decode cX7_addSort 1 = .ok (.getfield 31, 3) := by decide +kernel
