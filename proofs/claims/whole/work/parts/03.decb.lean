theorem dX7_addSort_4 : decode cX7_addSort 4 = .ok (.bipush 6, 2) := by decide +kernel
theorem dX7_addSort_6 : decode cX7_addSort 6 = .ok (.if_icmp .ge 33, 3) := by decide +kernel
theorem dX7_addSort_9 : decode cX7_addSort 9 = .ok (.aload_n 0, 1) := by decide +kernel
theorem dX7_addSort_10 : decode cX7_addSort 10 = .ok (.getfield 9, 3) := by decide +kernel
theorem dX7_addSort_13 : decode cX7_addSort 13 = .ok (.aload_n 0, 1) := by decide +kernel
theorem dX7_addSort_14 : decode cX7_addSort 14 = .ok (.getfield 31, 3) := by decide +kernel
theorem dX7_addSort_17 : decode cX7_addSort 17 = .ok (.iload_n 1, 1) := by decide +kernel
theorem dX7_addSort_18 : decode cX7_addSort 18 = .ok (.iastore, 1) := by decide +kernel
theorem dX7_addSort_19 : decode cX7_addSort 19 = .ok (.aload_n 0, 1) := by decide +kernel
theorem dX7_addSort_20 : decode cX7_addSort 20 = .ok (.getfield 15, 3) := by decide +kernel
theorem dX7_addSort_23 : decode cX7_addSort 23 = .ok (.aload_n 0, 1) := by decide +kernel
theorem dX7_addSort_24 : decode cX7_addSort 24 = .ok (.getfield 31, 3) := by decide +kernel
theorem dX7_addSort_27 : decode cX7_addSort 27 = .ok (.iload_n 2, 1) := by decide +kernel
theorem dX7_addSort_28 : decode cX7_addSort 28 = .ok (.iastore, 1) := by decide +kernel
theorem dX7_addSort_29 : decode cX7_addSort 29 = .ok (.aload_n 0, 1) := by decide +kernel
theorem dX7_addSort_30 : decode cX7_addSort 30 = .ok (.dup, 1) := by decide +kernel
theorem dX7_addSort_31 : decode cX7_addSort 31 = .ok (.getfield 31, 3) := by decide +kernel
theorem dX7_addSort_34 : decode cX7_addSort 34 = .ok (.iconst 1, 1) := by decide +kernel
theorem dX7_addSort_35 : decode cX7_addSort 35 = .ok (.iadd, 1) := by decide +kernel
theorem dX7_addSort_36 : decode cX7_addSort 36 = .ok (.putfield 31, 3) := by decide +kernel
theorem dX7_addSort_39 : decode cX7_addSort 39 = .ok (.return_, 1) := by decide +kernel
theorem dX7_hasSort_0 : decode cX7_hasSort 0 = .ok (.iload_n 1, 1) := by decide +kernel
theorem dX7_hasSort_1 : decode cX7_hasSort 1 = .ok (.ifCond .lt 15, 3) := by decide +kernel
theorem dX7_hasSort_4 : decode cX7_hasSort 4 = .ok (.iload_n 1, 1) := by decide +kernel
theorem dX7_hasSort_5 : decode cX7_hasSort 5 = .ok (.aload_n 0, 1) := by decide +kernel
theorem dX7_hasSort_6 : decode cX7_hasSort 6 = .ok (.getfield 31, 3) := by decide +kernel
theorem dX7_hasSort_9 : decode cX7_hasSort 9 = .ok (.if_icmp .ge 7, 3) := by decide +kernel
theorem dX7_hasSort_12 : decode cX7_hasSort 12 = .ok (.iconst 1, 1) := by decide +kernel
theorem dX7_hasSort_13 : decode cX7_hasSort 13 = .ok (.goto 4, 3) := by decide +kernel
theorem dX7_hasSort_16 : decode cX7_hasSort 16 = .ok (.iconst 0, 1) := by decide +kernel
theorem dX7_hasSort_17 : decode cX7_hasSort 17 = .ok (.ireturn, 1) := by decide +kernel
theorem dX7_bulkOf_0 : decode cX7_bulkOf 0 = .ok (.iload_n 1, 1) := by decide +kernel
theorem dX7_bulkOf_1 : decode cX7_bulkOf 1 = .ok (.ifCond .lt 20, 3) := by decide +kernel
theorem dX7_bulkOf_4 : decode cX7_bulkOf 4 = .ok (.iload_n 1, 1) := by decide +kernel
theorem dX7_bulkOf_5 : decode cX7_bulkOf 5 = .ok (.aload_n 0, 1) := by decide +kernel
theorem dX7_bulkOf_6 : decode cX7_bulkOf 6 = .ok (.getfield 31, 3) := by decide +kernel
theorem dX7_bulkOf_9 : decode cX7_bulkOf 9 = .ok (.if_icmp .ge 12, 3) := by decide +kernel
theorem dX7_bulkOf_12 : decode cX7_bulkOf 12 = .ok (.aload_n 0, 1) := by decide +kernel
theorem dX7_bulkOf_13 : decode cX7_bulkOf 13 = .ok (.getfield 9, 3) := by decide +kernel
theorem dX7_bulkOf_16 : decode cX7_bulkOf 16 = .ok (.iload_n 1, 1) := by decide +kernel
theorem dX7_bulkOf_17 : decode cX7_bulkOf 17 = .ok (.iaload, 1) := by decide +kernel
theorem dX7_bulkOf_18 : decode cX7_bulkOf 18 = .ok (.goto 4, 3) := by decide +kernel
theorem dX7_bulkOf_21 : decode cX7_bulkOf 21 = .ok (.iconst 0, 1) := by decide +kernel
theorem dX7_bulkOf_22 : decode cX7_bulkOf 22 = .ok (.ireturn, 1) := by decide +kernel
theorem dX7_pushOf_0 : decode cX7_pushOf 0 = .ok (.iload_n 1, 1) := by decide +kernel
theorem dX7_pushOf_1 : decode cX7_pushOf 1 = .ok (.ifCond .lt 20, 3) := by decide +kernel
theorem dX7_pushOf_4 : decode cX7_pushOf 4 = .ok (.iload_n 1, 1) := by decide +kernel
theorem dX7_pushOf_5 : decode cX7_pushOf 5 = .ok (.aload_n 0, 1) := by decide +kernel
theorem dX7_pushOf_6 : decode cX7_pushOf 6 = .ok (.getfield 31, 3) := by decide +kernel
theorem dX7_pushOf_9 : decode cX7_pushOf 9 = .ok (.if_icmp .ge 12, 3) := by decide +kernel
theorem dX7_pushOf_12 : decode cX7_pushOf 12 = .ok (.aload_n 0, 1) := by decide +kernel
theorem dX7_pushOf_13 : decode cX7_pushOf 13 = .ok (.getfield 15, 3) := by decide +kernel
theorem dX7_pushOf_16 : decode cX7_pushOf 16 = .ok (.iload_n 1, 1) := by decide +kernel
theorem dX7_pushOf_17 : decode cX7_pushOf 17 = .ok (.iaload, 1) := by decide +kernel
theorem dX7_pushOf_18 : decode cX7_pushOf 18 = .ok (.goto 4, 3) := by decide +kernel
theorem dX7_pushOf_21 : decode cX7_pushOf 21 = .ok (.iconst 0, 1) := by decide +kernel
theorem dX7_pushOf_22 : decode cX7_pushOf 22 = .ok (.ireturn, 1) := by decide +kernel
theorem dX7_isAtMost_0 : decode cX7_isAtMost 0 = .ok (.iload_n 2, 1) := by decide +kernel
theorem dX7_isAtMost_1 : decode cX7_isAtMost 1 = .ok (.ifCond .ne 11, 3) := by decide +kernel
theorem dX7_isAtMost_4 : decode cX7_isAtMost 4 = .ok (.aload_n 0, 1) := by decide +kernel
theorem dX7_isAtMost_5 : decode cX7_isAtMost 5 = .ok (.iload_n 1, 1) := by decide +kernel
theorem dX7_isAtMost_6 : decode cX7_isAtMost 6 = .ok (.invokevirtual 40, 3) := by decide +kernel
theorem dX7_isAtMost_9 : decode cX7_isAtMost 9 = .ok (.goto 8, 3) := by decide +kernel
theorem dX7_isAtMost_12 : decode cX7_isAtMost 12 = .ok (.aload_n 0, 1) := by decide +kernel
theorem dX7_isAtMost_13 : decode cX7_isAtMost 13 = .ok (.iload_n 1, 1) := by decide +kernel
theorem dX7_isAtMost_14 : decode cX7_isAtMost 14 = .ok (.invokevirtual 44, 3) := by decide +kernel
theorem dX7_isAtMost_17 : decode cX7_isAtMost 17 = .ok (.iload_n 3, 1) := by decide +kernel
theorem dX7_isAtMost_18 : decode cX7_isAtMost 18 = .ok (.if_icmp .gt 7, 3) := by decide +kernel
theorem dX7_isAtMost_21 : decode cX7_isAtMost 21 = .ok (.iconst 1, 1) := by decide +kernel
theorem dX7_isAtMost_22 : decode cX7_isAtMost 22 = .ok (.goto 4, 3) := by decide +kernel
theorem dX7_isAtMost_25 : decode cX7_isAtMost 25 = .ok (.iconst 0, 1) := by decide +kernel
theorem dX7_isAtMost_26 : decode cX7_isAtMost 26 = .ok (.ireturn, 1) := by decide +kernel
theorem dX7_howManyAtMost_0 : decode cX7_howManyAtMost 0 = .ok (.iconst 0, 1) := by decide +kernel
theorem dX7_howManyAtMost_1 : decode cX7_howManyAtMost 1 = .ok (.istore 4, 2) := by decide +kernel
theorem dX7_howManyAtMost_3 : decode cX7_howManyAtMost 3 = .ok (.iconst 0, 1) := by decide +kernel
theorem dX7_howManyAtMost_4 : decode cX7_howManyAtMost 4 = .ok (.istore 5, 2) := by decide +kernel
theorem dX7_howManyAtMost_6 : decode cX7_howManyAtMost 6 = .ok (.iload 5, 2) := by decide +kernel
theorem dX7_howManyAtMost_8 : decode cX7_howManyAtMost 8 = .ok (.aload_n 0, 1) := by decide +kernel
theorem dX7_howManyAtMost_9 : decode cX7_howManyAtMost 9 = .ok (.getfield 31, 3) := by decide +kernel
theorem dX7_howManyAtMost_12 : decode cX7_howManyAtMost 12 = .ok (.if_icmp .ge 33, 3) := by decide +kernel
theorem dX7_howManyAtMost_15 : decode cX7_howManyAtMost 15 = .ok (.iload_n 1, 1) := by decide +kernel
theorem dX7_howManyAtMost_16 : decode cX7_howManyAtMost 16 = .ok (.iload 5, 2) := by decide +kernel
theorem dX7_howManyAtMost_18 : decode cX7_howManyAtMost 18 = .ok (.ishr, 1) := by decide +kernel
theorem dX7_howManyAtMost_19 : decode cX7_howManyAtMost 19 = .ok (.iconst 1, 1) := by decide +kernel
theorem dX7_howManyAtMost_20 : decode cX7_howManyAtMost 20 = .ok (.iand, 1) := by decide +kernel
theorem dX7_howManyAtMost_21 : decode cX7_howManyAtMost 21 = .ok (.iconst 1, 1) := by decide +kernel
theorem dX7_howManyAtMost_22 : decode cX7_howManyAtMost 22 = .ok (.if_icmp .ne 17, 3) := by decide +kernel
theorem dX7_howManyAtMost_25 : decode cX7_howManyAtMost 25 = .ok (.aload_n 0, 1) := by decide +kernel
theorem dX7_howManyAtMost_26 : decode cX7_howManyAtMost 26 = .ok (.iload 5, 2) := by decide +kernel
theorem dX7_howManyAtMost_28 : decode cX7_howManyAtMost 28 = .ok (.iload_n 2, 1) := by decide +kernel
theorem dX7_howManyAtMost_29 : decode cX7_howManyAtMost 29 = .ok (.iload_n 3, 1) := by decide +kernel
theorem dX7_howManyAtMost_30 : decode cX7_howManyAtMost 30 = .ok (.invokevirtual 47, 3) := by decide +kernel
theorem dX7_howManyAtMost_33 : decode cX7_howManyAtMost 33 = .ok (.ifCond .eq 6, 3) := by decide +kernel
theorem dX7_howManyAtMost_36 : decode cX7_howManyAtMost 36 = .ok (.iinc 4 1, 3) := by decide +kernel
theorem dX7_howManyAtMost_39 : decode cX7_howManyAtMost 39 = .ok (.iinc 5 1, 3) := by decide +kernel
theorem dX7_howManyAtMost_42 : decode cX7_howManyAtMost 42 = .ok (.goto (-36), 3) := by decide +kernel
theorem dX7_howManyAtMost_45 : decode cX7_howManyAtMost 45 = .ok (.iload 4, 2) := by decide +kernel
theorem dX7_howManyAtMost_47 : decode cX7_howManyAtMost 47 = .ok (.ireturn, 1) := by decide +kernel
theorem dX7_placeOfSide_0 : decode cX7_placeOfSide 0 = .ok (.iload_n 1, 1) := by decide +kernel
theorem dX7_placeOfSide_1 : decode cX7_placeOfSide 1 = .ok (.ifCond .ne 7, 3) := by decide +kernel
theorem dX7_placeOfSide_4 : decode cX7_placeOfSide 4 = .ok (.iconst 0, 1) := by decide +kernel
theorem dX7_placeOfSide_5 : decode cX7_placeOfSide 5 = .ok (.goto 9, 3) := by decide +kernel
theorem dX7_placeOfSide_8 : decode cX7_placeOfSide 8 = .ok (.aload_n 0, 1) := by decide +kernel
theorem dX7_placeOfSide_9 : decode cX7_placeOfSide 9 = .ok (.getfield 21, 3) := by decide +kernel
theorem dX7_placeOfSide_12 : decode cX7_placeOfSide 12 = .ok (.iconst 2, 1) := by decide +kernel
theorem dX7_placeOfSide_13 : decode cX7_placeOfSide 13 = .ok (.idiv, 1) := by decide +kernel
theorem dX7_placeOfSide_14 : decode cX7_placeOfSide 14 = .ok (.ireturn, 1) := by decide +kernel
theorem dX7_placeBehind_0 : decode cX7_placeBehind 0 = .ok (.iload_n 1, 1) := by decide +kernel
theorem dX7_placeBehind_1 : decode cX7_placeBehind 1 = .ok (.iconst 1, 1) := by decide +kernel
theorem dX7_placeBehind_2 : decode cX7_placeBehind 2 = .ok (.iadd, 1) := by decide +kernel
theorem dX7_placeBehind_3 : decode cX7_placeBehind 3 = .ok (.aload_n 0, 1) := by decide +kernel
theorem dX7_placeBehind_4 : decode cX7_placeBehind 4 = .ok (.getfield 21, 3) := by decide +kernel
theorem dX7_placeBehind_7 : decode cX7_placeBehind 7 = .ok (.if_icmp .ge 9, 3) := by decide +kernel
theorem dX7_placeBehind_10 : decode cX7_placeBehind 10 = .ok (.iload_n 1, 1) := by decide +kernel
theorem dX7_placeBehind_11 : decode cX7_placeBehind 11 = .ok (.iconst 1, 1) := by decide +kernel
theorem dX7_placeBehind_12 : decode cX7_placeBehind 12 = .ok (.iadd, 1) := by decide +kernel
theorem dX7_placeBehind_13 : decode cX7_placeBehind 13 = .ok (.goto 4, 3) := by decide +kernel
theorem dX7_placeBehind_16 : decode cX7_placeBehind 16 = .ok (.iconst 0, 1) := by decide +kernel
theorem dX7_placeBehind_17 : decode cX7_placeBehind 17 = .ok (.ireturn, 1) := by decide +kernel
theorem dX8_init_0 : decode cX8_init 0 = .ok (.aload_n 0, 1) := by decide +kernel
theorem dX8_init_1 : decode cX8_init 1 = .ok (.invokespecial 3, 3) := by decide +kernel
theorem dX8_init_4 : decode cX8_init 4 = .ok (.aload_n 0, 1) := by decide +kernel
theorem dX8_init_5 : decode cX8_init 5 = .ok (.bipush 6, 2) := by decide +kernel
theorem dX8_init_7 : decode cX8_init 7 = .ok (.newarray .int, 2) := by decide +kernel
theorem dX8_init_9 : decode cX8_init 9 = .ok (.putfield 9, 3) := by decide +kernel
theorem dX8_init_12 : decode cX8_init 12 = .ok (.aload_n 0, 1) := by decide +kernel
theorem dX8_init_13 : decode cX8_init 13 = .ok (.bipush 6, 2) := by decide +kernel
theorem dX8_init_15 : decode cX8_init 15 = .ok (.newarray .int, 2) := by decide +kernel
theorem dX8_init_17 : decode cX8_init 17 = .ok (.putfield 15, 3) := by decide +kernel
theorem dX8_init_20 : decode cX8_init 20 = .ok (.aload_n 0, 1) := by decide +kernel
theorem dX8_init_21 : decode cX8_init 21 = .ok (.bipush 6, 2) := by decide +kernel
theorem dX8_init_23 : decode cX8_init 23 = .ok (.newarray .int, 2) := by decide +kernel
theorem dX8_init_25 : decode cX8_init 25 = .ok (.putfield 18, 3) := by decide +kernel
theorem dX8_init_28 : decode cX8_init 28 = .ok (.aload_n 0, 1) := by decide +kernel
theorem dX8_init_29 : decode cX8_init 29 = .ok (.aload_n 1, 1) := by decide +kernel
theorem dX8_init_30 : decode cX8_init 30 = .ok (.putfield 21, 3) := by decide +kernel
theorem dX8_init_33 : decode cX8_init 33 = .ok (.return_, 1) := by decide +kernel
theorem dX8_add_0 : decode cX8_add 0 = .ok (.aload_n 0, 1) := by decide +kernel
theorem dX8_add_1 : decode cX8_add 1 = .ok (.getfield 25, 3) := by decide +kernel
theorem dX8_add_4 : decode cX8_add 4 = .ok (.bipush 6, 2) := by decide +kernel
theorem dX8_add_6 : decode cX8_add 6 = .ok (.if_icmp .lt 5, 3) := by decide +kernel
theorem dX8_add_9 : decode cX8_add 9 = .ok (.iconst 0, 1) := by decide +kernel
theorem dX8_add_10 : decode cX8_add 10 = .ok (.ireturn, 1) := by decide +kernel
theorem dX8_add_11 : decode cX8_add 11 = .ok (.aload_n 0, 1) := by decide +kernel
theorem dX8_add_12 : decode cX8_add 12 = .ok (.getfield 9, 3) := by decide +kernel
theorem dX8_add_15 : decode cX8_add 15 = .ok (.aload_n 0, 1) := by decide +kernel
theorem dX8_add_16 : decode cX8_add 16 = .ok (.getfield 25, 3) := by decide +kernel
theorem dX8_add_19 : decode cX8_add 19 = .ok (.iload_n 1, 1) := by decide +kernel
theorem dX8_add_20 : decode cX8_add 20 = .ok (.iastore, 1) := by decide +kernel
theorem dX8_add_21 : decode cX8_add 21 = .ok (.aload_n 0, 1) := by decide +kernel
theorem dX8_add_22 : decode cX8_add 22 = .ok (.getfield 15, 3) := by decide +kernel
theorem dX8_add_25 : decode cX8_add 25 = .ok (.aload_n 0, 1) := by decide +kernel
theorem dX8_add_26 : decode cX8_add 26 = .ok (.getfield 25, 3) := by decide +kernel
theorem dX8_add_29 : decode cX8_add 29 = .ok (.iload_n 2, 1) := by decide +kernel
theorem dX8_add_30 : decode cX8_add 30 = .ok (.iastore, 1) := by decide +kernel
theorem dX8_add_31 : decode cX8_add 31 = .ok (.aload_n 0, 1) := by decide +kernel
theorem dX8_add_32 : decode cX8_add 32 = .ok (.getfield 18, 3) := by decide +kernel
theorem dX8_add_35 : decode cX8_add 35 = .ok (.aload_n 0, 1) := by decide +kernel
theorem dX8_add_36 : decode cX8_add 36 = .ok (.getfield 25, 3) := by decide +kernel
theorem dX8_add_39 : decode cX8_add 39 = .ok (.iload_n 3, 1) := by decide +kernel
theorem dX8_add_40 : decode cX8_add 40 = .ok (.iastore, 1) := by decide +kernel
theorem dX8_add_41 : decode cX8_add 41 = .ok (.aload_n 0, 1) := by decide +kernel
theorem dX8_add_42 : decode cX8_add 42 = .ok (.dup, 1) := by decide +kernel
theorem dX8_add_43 : decode cX8_add 43 = .ok (.getfield 25, 3) := by decide +kernel
theorem dX8_add_46 : decode cX8_add 46 = .ok (.iconst 1, 1) := by decide +kernel
theorem dX8_add_47 : decode cX8_add 47 = .ok (.iadd, 1) := by decide +kernel
theorem dX8_add_48 : decode cX8_add 48 = .ok (.putfield 25, 3) := by decide +kernel
theorem dX8_add_51 : decode cX8_add 51 = .ok (.iconst 1, 1) := by decide +kernel
theorem dX8_add_52 : decode cX8_add 52 = .ok (.ireturn, 1) := by decide +kernel
theorem dX8_possibleSorts_0 : decode cX8_possibleSorts 0 = .ok (.iconst 0, 1) := by decide +kernel
theorem dX8_possibleSorts_1 : decode cX8_possibleSorts 1 = .ok (.istore_n 1, 1) := by decide +kernel
theorem dX8_possibleSorts_2 : decode cX8_possibleSorts 2 = .ok (.iconst 0, 1) := by decide +kernel
theorem dX8_possibleSorts_3 : decode cX8_possibleSorts 3 = .ok (.istore_n 2, 1) := by decide +kernel
theorem dX8_possibleSorts_4 : decode cX8_possibleSorts 4 = .ok (.iload_n 2, 1) := by decide +kernel
theorem dX8_possibleSorts_5 : decode cX8_possibleSorts 5 = .ok (.aload_n 0, 1) := by decide +kernel
theorem dX8_possibleSorts_6 : decode cX8_possibleSorts 6 = .ok (.getfield 21, 3) := by decide +kernel
theorem dX8_possibleSorts_9 : decode cX8_possibleSorts 9 = .ok (.getfield 29, 3) := by decide +kernel
theorem dX8_possibleSorts_12 : decode cX8_possibleSorts 12 = .ok (.if_icmp .ge 23, 3) := by decide +kernel
theorem dX8_possibleSorts_15 : decode cX8_possibleSorts 15 = .ok (.aload_n 0, 1) := by decide +kernel
theorem dX8_possibleSorts_16 : decode cX8_possibleSorts 16 = .ok (.iload_n 2, 1) := by decide +kernel
theorem dX8_possibleSorts_17 : decode cX8_possibleSorts 17 = .ok (.invokevirtual 34, 3) := by decide +kernel
theorem dX8_possibleSorts_20 : decode cX8_possibleSorts 20 = .ok (.ifCond .eq 9, 3) := by decide +kernel
theorem dX8_possibleSorts_23 : decode cX8_possibleSorts 23 = .ok (.iload_n 1, 1) := by decide +kernel
theorem dX8_possibleSorts_24 : decode cX8_possibleSorts 24 = .ok (.iconst 1, 1) := by decide +kernel
theorem dX8_possibleSorts_25 : decode cX8_possibleSorts 25 = .ok (.iload_n 2, 1) := by decide +kernel
theorem dX8_possibleSorts_26 : decode cX8_possibleSorts 26 = .ok (.ishl, 1) := by decide +kernel
theorem dX8_possibleSorts_27 : decode cX8_possibleSorts 27 = .ok (.ior, 1) := by decide +kernel
theorem dX8_possibleSorts_28 : decode cX8_possibleSorts 28 = .ok (.istore_n 1, 1) := by decide +kernel
theorem dX8_possibleSorts_29 : decode cX8_possibleSorts 29 = .ok (.iinc 2 1, 3) := by decide +kernel
theorem dX8_possibleSorts_32 : decode cX8_possibleSorts 32 = .ok (.goto (-28), 3) := by decide +kernel
theorem dX8_possibleSorts_35 : decode cX8_possibleSorts 35 = .ok (.iload_n 1, 1) := by decide +kernel
theorem dX8_possibleSorts_36 : decode cX8_possibleSorts 36 = .ok (.ireturn, 1) := by decide +kernel
theorem dX8_allIsSoOf_0 : decode cX8_allIsSoOf 0 = .ok (.iconst 0, 1) := by decide +kernel
theorem dX8_allIsSoOf_1 : decode cX8_allIsSoOf 1 = .ok (.istore_n 2, 1) := by decide +kernel
theorem dX8_allIsSoOf_2 : decode cX8_allIsSoOf 2 = .ok (.iload_n 2, 1) := by decide +kernel
theorem dX8_allIsSoOf_3 : decode cX8_allIsSoOf 3 = .ok (.aload_n 0, 1) := by decide +kernel
theorem dX8_allIsSoOf_4 : decode cX8_allIsSoOf 4 = .ok (.getfield 25, 3) := by decide +kernel
theorem dX8_allIsSoOf_7 : decode cX8_allIsSoOf 7 = .ok (.if_icmp .ge 49, 3) := by decide +kernel
theorem dX8_allIsSoOf_10 : decode cX8_allIsSoOf 10 = .ok (.aload_n 0, 1) := by decide +kernel
theorem dX8_allIsSoOf_11 : decode cX8_allIsSoOf 11 = .ok (.getfield 21, 3) := by decide +kernel
theorem dX8_allIsSoOf_14 : decode cX8_allIsSoOf 14 = .ok (.iload_n 1, 1) := by decide +kernel
theorem dX8_allIsSoOf_15 : decode cX8_allIsSoOf 15 = .ok (.aload_n 0, 1) := by decide +kernel
theorem dX8_allIsSoOf_16 : decode cX8_allIsSoOf 16 = .ok (.getfield 9, 3) := by decide +kernel
theorem dX8_allIsSoOf_19 : decode cX8_allIsSoOf 19 = .ok (.iload_n 2, 1) := by decide +kernel
theorem dX8_allIsSoOf_20 : decode cX8_allIsSoOf 20 = .ok (.iaload, 1) := by decide +kernel
theorem dX8_allIsSoOf_21 : decode cX8_allIsSoOf 21 = .ok (.aload_n 0, 1) := by decide +kernel
theorem dX8_allIsSoOf_22 : decode cX8_allIsSoOf 22 = .ok (.getfield 15, 3) := by decide +kernel
theorem dX8_allIsSoOf_25 : decode cX8_allIsSoOf 25 = .ok (.iload_n 2, 1) := by decide +kernel
theorem dX8_allIsSoOf_26 : decode cX8_allIsSoOf 26 = .ok (.iaload, 1) := by decide +kernel
theorem dX8_allIsSoOf_27 : decode cX8_allIsSoOf 27 = .ok (.invokevirtual 38, 3) := by decide +kernel
theorem dX8_allIsSoOf_30 : decode cX8_allIsSoOf 30 = .ok (.aload_n 0, 1) := by decide +kernel
theorem dX8_allIsSoOf_31 : decode cX8_allIsSoOf 31 = .ok (.getfield 18, 3) := by decide +kernel
theorem dX8_allIsSoOf_34 : decode cX8_allIsSoOf 34 = .ok (.iload_n 2, 1) := by decide +kernel
theorem dX8_allIsSoOf_35 : decode cX8_allIsSoOf 35 = .ok (.iaload, 1) := by decide +kernel
theorem dX8_allIsSoOf_36 : decode cX8_allIsSoOf 36 = .ok (.iconst 1, 1) := by decide +kernel
theorem dX8_allIsSoOf_37 : decode cX8_allIsSoOf 37 = .ok (.if_icmp .ne 7, 3) := by decide +kernel
theorem dX8_allIsSoOf_40 : decode cX8_allIsSoOf 40 = .ok (.iconst 1, 1) := by decide +kernel
theorem dX8_allIsSoOf_41 : decode cX8_allIsSoOf 41 = .ok (.goto 4, 3) := by decide +kernel
theorem dX8_allIsSoOf_44 : decode cX8_allIsSoOf 44 = .ok (.iconst 0, 1) := by decide +kernel
theorem dX8_allIsSoOf_45 : decode cX8_allIsSoOf 45 = .ok (.if_icmp .eq 5, 3) := by decide +kernel
theorem dX8_allIsSoOf_48 : decode cX8_allIsSoOf 48 = .ok (.iconst 0, 1) := by decide +kernel
theorem dX8_allIsSoOf_49 : decode cX8_allIsSoOf 49 = .ok (.ireturn, 1) := by decide +kernel
theorem dX8_allIsSoOf_50 : decode cX8_allIsSoOf 50 = .ok (.iinc 2 1, 3) := by decide +kernel
theorem dX8_allIsSoOf_53 : decode cX8_allIsSoOf 53 = .ok (.goto (-51), 3) := by decide +kernel
theorem dX8_allIsSoOf_56 : decode cX8_allIsSoOf 56 = .ok (.iconst 1, 1) := by decide +kernel
theorem dX8_allIsSoOf_57 : decode cX8_allIsSoOf 57 = .ok (.ireturn, 1) := by decide +kernel
theorem dX9_init_0 : decode cX9_init 0 = .ok (.aload_n 0, 1) := by decide +kernel
theorem dX9_init_1 : decode cX9_init 1 = .ok (.invokespecial 1, 3) := by decide +kernel
theorem dX9_init_4 : decode cX9_init 4 = .ok (.return_, 1) := by decide +kernel
theorem dX9_worth_0 : decode cX9_worth 0 = .ok (.aload_n 0, 1) := by decide +kernel
theorem dX9_worth_1 : decode cX9_worth 1 = .ok (.dup, 1) := by decide +kernel
theorem dX9_worth_2 : decode cX9_worth 2 = .ok (.getfield 7, 3) := by decide +kernel
theorem dX9_worth_5 : decode cX9_worth 5 = .ok (.ldc2_w 13, 3) := by decide +kernel
theorem dX9_worth_8 : decode cX9_worth 8 = .ok (.ladd, 1) := by decide +kernel
theorem dX9_worth_9 : decode cX9_worth 9 = .ok (.putfield 7, 3) := by decide +kernel
theorem dX9_worth_12 : decode cX9_worth 12 = .ok (.aload_n 0, 1) := by decide +kernel
theorem dX9_worth_13 : decode cX9_worth 13 = .ok (.aload_n 1, 1) := by decide +kernel
theorem dX9_worth_14 : decode cX9_worth 14 = .ok (.iload_n 2, 1) := by decide +kernel
theorem dX9_worth_15 : decode cX9_worth 15 = .ok (.invokespecial 15, 3) := by decide +kernel
theorem dX9_worth_18 : decode cX9_worth 18 = .ok (.aload_n 1, 1) := by decide +kernel
theorem dX9_worth_19 : decode cX9_worth 19 = .ok (.getfield 19, 3) := by decide +kernel
theorem dX9_worth_22 : decode cX9_worth 22 = .ok (.iadd, 1) := by decide +kernel
theorem dX9_worth_23 : decode cX9_worth 23 = .ok (.ireturn, 1) := by decide +kernel
theorem dX10_init_0 : decode cX10_init 0 = .ok (.aload_n 0, 1) := by decide +kernel
theorem dX10_init_1 : decode cX10_init 1 = .ok (.invokespecial 3, 3) := by decide +kernel
theorem dX10_init_4 : decode cX10_init 4 = .ok (.aload_n 0, 1) := by decide +kernel
theorem dX10_init_5 : decode cX10_init 5 = .ok (.bipush 100, 2) := by decide +kernel
theorem dX10_init_7 : decode cX10_init 7 = .ok (.newarray .int, 2) := by decide +kernel
theorem dX10_init_9 : decode cX10_init 9 = .ok (.putfield 9, 3) := by decide +kernel
theorem dX10_init_12 : decode cX10_init 12 = .ok (.return_, 1) := by decide +kernel
theorem dX10_add_0 : decode cX10_add 0 = .ok (.aload_n 0, 1) := by decide +kernel
theorem dX10_add_1 : decode cX10_add 1 = .ok (.getfield 15, 3) := by decide +kernel
theorem dX10_add_4 : decode cX10_add 4 = .ok (.bipush 100, 2) := by decide +kernel
theorem dX10_add_6 : decode cX10_add 6 = .ok (.if_icmp .lt 5, 3) := by decide +kernel
theorem dX10_add_9 : decode cX10_add 9 = .ok (.iconst 0, 1) := by decide +kernel
theorem dX10_add_10 : decode cX10_add 10 = .ok (.ireturn, 1) := by decide +kernel
theorem dX10_add_11 : decode cX10_add 11 = .ok (.aload_n 0, 1) := by decide +kernel
theorem dX10_add_12 : decode cX10_add 12 = .ok (.getfield 9, 3) := by decide +kernel
theorem dX10_add_15 : decode cX10_add 15 = .ok (.aload_n 0, 1) := by decide +kernel
theorem dX10_add_16 : decode cX10_add 16 = .ok (.getfield 15, 3) := by decide +kernel
theorem dX10_add_19 : decode cX10_add 19 = .ok (.iload_n 1, 1) := by decide +kernel
theorem dX10_add_20 : decode cX10_add 20 = .ok (.iastore, 1) := by decide +kernel
theorem dX10_add_21 : decode cX10_add 21 = .ok (.aload_n 0, 1) := by decide +kernel
theorem dX10_add_22 : decode cX10_add 22 = .ok (.dup, 1) := by decide +kernel
theorem dX10_add_23 : decode cX10_add 23 = .ok (.getfield 15, 3) := by decide +kernel
theorem dX10_add_26 : decode cX10_add 26 = .ok (.iconst 1, 1) := by decide +kernel
theorem dX10_add_27 : decode cX10_add 27 = .ok (.iadd, 1) := by decide +kernel
theorem dX10_add_28 : decode cX10_add 28 = .ok (.putfield 15, 3) := by decide +kernel
theorem dX10_add_31 : decode cX10_add 31 = .ok (.iconst 1, 1) := by decide +kernel
theorem dX10_add_32 : decode cX10_add 32 = .ok (.ireturn, 1) := by decide +kernel
theorem dX10_tellTo_0 : decode cX10_tellTo 0 = .ok (.aload_n 1, 1) := by decide +kernel
theorem dX10_tellTo_1 : decode cX10_tellTo 1 = .ok (.invokevirtual 19, 3) := by decide +kernel
theorem dX10_tellTo_4 : decode cX10_tellTo 4 = .ok (.aload_n 0, 1) := by decide +kernel
theorem dX10_tellTo_5 : decode cX10_tellTo 5 = .ok (.iconst 0, 1) := by decide +kernel
theorem dX10_tellTo_6 : decode cX10_tellTo 6 = .ok (.putfield 24, 3) := by decide +kernel
theorem dX10_tellTo_9 : decode cX10_tellTo 9 = .ok (.aload_n 0, 1) := by decide +kernel
theorem dX10_tellTo_10 : decode cX10_tellTo 10 = .ok (.iconst 0, 1) := by decide +kernel
theorem dX10_tellTo_11 : decode cX10_tellTo 11 = .ok (.putfield 28, 3) := by decide +kernel
theorem dX10_tellTo_14 : decode cX10_tellTo 14 = .ok (.iconst 0, 1) := by decide +kernel
theorem dX10_tellTo_15 : decode cX10_tellTo 15 = .ok (.istore_n 2, 1) := by decide +kernel
theorem dX10_tellTo_16 : decode cX10_tellTo 16 = .ok (.iload_n 2, 1) := by decide +kernel
theorem dX10_tellTo_17 : decode cX10_tellTo 17 = .ok (.bipush 100, 2) := by decide +kernel
theorem dX10_tellTo_19 : decode cX10_tellTo 19 = .ok (.if_icmp .gt 35, 3) := by decide +kernel
theorem dX10_tellTo_22 : decode cX10_tellTo 22 = .ok (.aload_n 0, 1) := by decide +kernel
theorem dX10_tellTo_23 : decode cX10_tellTo 23 = .ok (.invokevirtual 31, 3) := by decide +kernel
theorem dX10_tellTo_26 : decode cX10_tellTo 26 = .ok (.aload_n 0, 1) := by decide +kernel
theorem dX10_tellTo_27 : decode cX10_tellTo 27 = .ok (.getfield 34, 3) := by decide +kernel
theorem dX10_tellTo_30 : decode cX10_tellTo 30 = .ok (.iconst (-1), 1) := by decide +kernel
theorem dX10_tellTo_31 : decode cX10_tellTo 31 = .ok (.if_icmp .ne 5, 3) := by decide +kernel
theorem dX10_tellTo_34 : decode cX10_tellTo 34 = .ok (.iload_n 2, 1) := by decide +kernel
theorem dX10_tellTo_35 : decode cX10_tellTo 35 = .ok (.ireturn, 1) := by decide +kernel
theorem dX10_tellTo_36 : decode cX10_tellTo 36 = .ok (.aload_n 0, 1) := by decide +kernel
theorem dX10_tellTo_37 : decode cX10_tellTo 37 = .ok (.aload_n 1, 1) := by decide +kernel
theorem dX10_tellTo_38 : decode cX10_tellTo 38 = .ok (.iload_n 2, 1) := by decide +kernel
theorem dX10_tellTo_39 : decode cX10_tellTo 39 = .ok (.invokevirtual 37, 3) := by decide +kernel
theorem dX10_tellTo_42 : decode cX10_tellTo 42 = .ok (.ifCond .ne 6, 3) := by decide +kernel
theorem dX10_tellTo_45 : decode cX10_tellTo 45 = .ok (.goto 9, 3) := by decide +kernel
theorem dX10_tellTo_48 : decode cX10_tellTo 48 = .ok (.iinc 2 1, 3) := by decide +kernel
theorem dX10_tellTo_51 : decode cX10_tellTo 51 = .ok (.goto (-35), 3) := by decide +kernel
theorem dX10_tellTo_54 : decode cX10_tellTo 54 = .ok (.bipush (-10), 2) := by decide +kernel
theorem dX10_tellTo_56 : decode cX10_tellTo 56 = .ok (.aload_n 0, 1) := by decide +kernel
theorem dX10_tellTo_57 : decode cX10_tellTo 57 = .ok (.getfield 41, 3) := by decide +kernel
theorem dX10_tellTo_60 : decode cX10_tellTo 60 = .ok (.isub, 1) := by decide +kernel
theorem dX10_tellTo_61 : decode cX10_tellTo 61 = .ok (.ireturn, 1) := by decide +kernel
theorem dX10_readItem_0 : decode cX10_readItem 0 = .ok (.aload_n 0, 1) := by decide +kernel
theorem dX10_readItem_1 : decode cX10_readItem 1 = .ok (.getfield 34, 3) := by decide +kernel
theorem dX10_readItem_4 : decode cX10_readItem 4 = .ok (.lookupswitch 98 #[(104, 54), (114, 36), (115, 75)], 36) := by decide +kernel
theorem dX10_readItem_40 : decode cX10_readItem 40 = .ok (.iload_n 2, 1) := by decide +kernel
theorem dX10_readItem_41 : decode cX10_readItem 41 = .ok (.ifCond .ne 15, 3) := by decide +kernel
theorem dX10_readItem_44 : decode cX10_readItem 44 = .ok (.aload_n 0, 1) := by decide +kernel
theorem dX10_readItem_45 : decode cX10_readItem 45 = .ok (.aload_n 1, 1) := by decide +kernel
theorem dX10_readItem_46 : decode cX10_readItem 46 = .ok (.invokevirtual 44, 3) := by decide +kernel
theorem dX10_readItem_49 : decode cX10_readItem 49 = .ok (.ifCond .eq 7, 3) := by decide +kernel
theorem dX10_readItem_52 : decode cX10_readItem 52 = .ok (.iconst 1, 1) := by decide +kernel
theorem dX10_readItem_53 : decode cX10_readItem 53 = .ok (.goto 4, 3) := by decide +kernel
theorem dX10_readItem_56 : decode cX10_readItem 56 = .ok (.iconst 0, 1) := by decide +kernel
theorem dX10_readItem_57 : decode cX10_readItem 57 = .ok (.ireturn, 1) := by decide +kernel
theorem dX10_readItem_58 : decode cX10_readItem 58 = .ok (.aload_n 0, 1) := by decide +kernel
theorem dX10_readItem_59 : decode cX10_readItem 59 = .ok (.getfield 24, 3) := by decide +kernel
theorem dX10_readItem_62 : decode cX10_readItem 62 = .ok (.ifCond .ne 15, 3) := by decide +kernel
theorem dX10_readItem_65 : decode cX10_readItem 65 = .ok (.aload_n 0, 1) := by decide +kernel
theorem dX10_readItem_66 : decode cX10_readItem 66 = .ok (.aload_n 1, 1) := by decide +kernel
theorem dX10_readItem_67 : decode cX10_readItem 67 = .ok (.invokevirtual 48, 3) := by decide +kernel
theorem dX10_readItem_70 : decode cX10_readItem 70 = .ok (.ifCond .eq 7, 3) := by decide +kernel
theorem dX10_readItem_73 : decode cX10_readItem 73 = .ok (.iconst 1, 1) := by decide +kernel
theorem dX10_readItem_74 : decode cX10_readItem 74 = .ok (.goto 4, 3) := by decide +kernel
theorem dX10_readItem_77 : decode cX10_readItem 77 = .ok (.iconst 0, 1) := by decide +kernel
theorem dX10_readItem_78 : decode cX10_readItem 78 = .ok (.ireturn, 1) := by decide +kernel
theorem dX10_readItem_79 : decode cX10_readItem 79 = .ok (.aload_n 1, 1) := by decide +kernel
theorem dX10_readItem_80 : decode cX10_readItem 80 = .ok (.getfield 51, 3) := by decide +kernel
theorem dX10_readItem_83 : decode cX10_readItem 83 = .ok (.bipush 6, 2) := by decide +kernel
theorem dX10_readItem_85 : decode cX10_readItem 85 = .ok (.if_icmp .ge 15, 3) := by decide +kernel
theorem dX10_readItem_88 : decode cX10_readItem 88 = .ok (.aload_n 0, 1) := by decide +kernel
theorem dX10_readItem_89 : decode cX10_readItem 89 = .ok (.aload_n 1, 1) := by decide +kernel
theorem dX10_readItem_90 : decode cX10_readItem 90 = .ok (.invokevirtual 54, 3) := by decide +kernel
theorem dX10_readItem_93 : decode cX10_readItem 93 = .ok (.ifCond .eq 7, 3) := by decide +kernel
theorem dX10_readItem_96 : decode cX10_readItem 96 = .ok (.iconst 1, 1) := by decide +kernel
theorem dX10_readItem_97 : decode cX10_readItem 97 = .ok (.goto 4, 3) := by decide +kernel
theorem dX10_readItem_100 : decode cX10_readItem 100 = .ok (.iconst 0, 1) := by decide +kernel
theorem dX10_readItem_101 : decode cX10_readItem 101 = .ok (.ireturn, 1) := by decide +kernel
theorem dX10_readItem_102 : decode cX10_readItem 102 = .ok (.iconst 0, 1) := by decide +kernel
theorem dX10_readItem_103 : decode cX10_readItem 103 = .ok (.ireturn, 1) := by decide +kernel
theorem dX10_readRooms_0 : decode cX10_readRooms 0 = .ok (.aload_n 0, 1) := by decide +kernel
theorem dX10_readRooms_1 : decode cX10_readRooms 1 = .ok (.iconst 3, 1) := by decide +kernel
theorem dX10_readRooms_2 : decode cX10_readRooms 2 = .ok (.bipush 6, 2) := by decide +kernel
theorem dX10_readRooms_4 : decode cX10_readRooms 4 = .ok (.invokevirtual 57, 3) := by decide +kernel
theorem dX10_readRooms_7 : decode cX10_readRooms 7 = .ok (.ifCond .ne 5, 3) := by decide +kernel
theorem dX10_readRooms_10 : decode cX10_readRooms 10 = .ok (.iconst 0, 1) := by decide +kernel
theorem dX10_readRooms_11 : decode cX10_readRooms 11 = .ok (.ireturn, 1) := by decide +kernel
theorem dX10_readRooms_12 : decode cX10_readRooms 12 = .ok (.aload_n 1, 1) := by decide +kernel
theorem dX10_readRooms_13 : decode cX10_readRooms 13 = .ok (.aload_n 0, 1) := by decide +kernel
theorem dX10_readRooms_14 : decode cX10_readRooms 14 = .ok (.getfield 61, 3) := by decide +kernel
theorem dX10_readRooms_17 : decode cX10_readRooms 17 = .ok (.putfield 64, 3) := by decide +kernel
theorem dX10_readRooms_20 : decode cX10_readRooms 20 = .ok (.aload_n 0, 1) := by decide +kernel
theorem dX10_readRooms_21 : decode cX10_readRooms 21 = .ok (.iconst 1, 1) := by decide +kernel
theorem dX10_readRooms_22 : decode cX10_readRooms 22 = .ok (.iconst 5, 1) := by decide +kernel
theorem dX10_readRooms_23 : decode cX10_readRooms 23 = .ok (.invokevirtual 57, 3) := by decide +kernel
theorem dX10_readRooms_26 : decode cX10_readRooms 26 = .ok (.ifCond .ne 5, 3) := by decide +kernel
theorem dX10_readRooms_29 : decode cX10_readRooms 29 = .ok (.iconst 0, 1) := by decide +kernel
theorem dX10_readRooms_30 : decode cX10_readRooms 30 = .ok (.ireturn, 1) := by decide +kernel
theorem dX10_readRooms_31 : decode cX10_readRooms 31 = .ok (.aload_n 1, 1) := by decide +kernel
theorem dX10_readRooms_32 : decode cX10_readRooms 32 = .ok (.aload_n 0, 1) := by decide +kernel
theorem dX10_readRooms_33 : decode cX10_readRooms 33 = .ok (.getfield 61, 3) := by decide +kernel
theorem dX10_readRooms_36 : decode cX10_readRooms 36 = .ok (.putfield 67, 3) := by decide +kernel
theorem dX10_readRooms_39 : decode cX10_readRooms 39 = .ok (.aload_n 0, 1) := by decide +kernel
theorem dX10_readRooms_40 : decode cX10_readRooms 40 = .ok (.invokevirtual 70, 3) := by decide +kernel
theorem dX10_readRooms_43 : decode cX10_readRooms 43 = .ok (.ireturn, 1) := by decide +kernel
theorem dX10_readHard_0 : decode cX10_readHard 0 = .ok (.aload_n 0, 1) := by decide +kernel
theorem dX10_readHard_1 : decode cX10_readHard 1 = .ok (.iconst 0, 1) := by decide +kernel
theorem dX10_readHard_2 : decode cX10_readHard 2 = .ok (.bipush 20, 2) := by decide +kernel
theorem dX10_readHard_4 : decode cX10_readHard 4 = .ok (.invokevirtual 57, 3) := by decide +kernel
theorem dX10_readHard_7 : decode cX10_readHard 7 = .ok (.ifCond .ne 5, 3) := by decide +kernel
theorem dX10_readHard_10 : decode cX10_readHard 10 = .ok (.iconst 0, 1) := by decide +kernel
theorem dX10_readHard_11 : decode cX10_readHard 11 = .ok (.ireturn, 1) := by decide +kernel
theorem dX10_readHard_12 : decode cX10_readHard 12 = .ok (.aload_n 1, 1) := by decide +kernel
theorem dX10_readHard_13 : decode cX10_readHard 13 = .ok (.aload_n 0, 1) := by decide +kernel
theorem dX10_readHard_14 : decode cX10_readHard 14 = .ok (.getfield 61, 3) := by decide +kernel
theorem dX10_readHard_17 : decode cX10_readHard 17 = .ok (.putfield 74, 3) := by decide +kernel
theorem dX10_readHard_20 : decode cX10_readHard 20 = .ok (.aload_n 0, 1) := by decide +kernel
theorem dX10_readHard_21 : decode cX10_readHard 21 = .ok (.iconst 1, 1) := by decide +kernel
theorem dX10_readHard_22 : decode cX10_readHard 22 = .ok (.putfield 24, 3) := by decide +kernel
theorem dX10_readHard_25 : decode cX10_readHard 25 = .ok (.aload_n 0, 1) := by decide +kernel
theorem dX10_readHard_26 : decode cX10_readHard 26 = .ok (.invokevirtual 70, 3) := by decide +kernel
theorem dX10_readHard_29 : decode cX10_readHard 29 = .ok (.ireturn, 1) := by decide +kernel
theorem dX10_readSort_0 : decode cX10_readSort 0 = .ok (.aload_n 0, 1) := by decide +kernel
theorem dX10_readSort_1 : decode cX10_readSort 1 = .ok (.iconst 1, 1) := by decide +kernel
theorem dX10_readSort_2 : decode cX10_readSort 2 = .ok (.aload_n 1, 1) := by decide +kernel
theorem dX10_readSort_3 : decode cX10_readSort 3 = .ok (.getfield 67, 3) := by decide +kernel
theorem dX10_readSort_6 : decode cX10_readSort 6 = .ok (.invokevirtual 57, 3) := by decide +kernel
theorem dX10_readSort_9 : decode cX10_readSort 9 = .ok (.ifCond .ne 5, 3) := by decide +kernel
theorem dX10_readSort_12 : decode cX10_readSort 12 = .ok (.iconst 0, 1) := by decide +kernel
theorem dX10_readSort_13 : decode cX10_readSort 13 = .ok (.ireturn, 1) := by decide +kernel
theorem dX10_readSort_14 : decode cX10_readSort 14 = .ok (.aload_n 0, 1) := by decide +kernel
theorem dX10_readSort_15 : decode cX10_readSort 15 = .ok (.getfield 61, 3) := by decide +kernel
theorem dX10_readSort_18 : decode cX10_readSort 18 = .ok (.istore_n 2, 1) := by decide +kernel
theorem dX10_readSort_19 : decode cX10_readSort 19 = .ok (.aload_n 0, 1) := by decide +kernel
theorem dX10_readSort_20 : decode cX10_readSort 20 = .ok (.iconst 0, 1) := by decide +kernel
theorem dX10_readSort_21 : decode cX10_readSort 21 = .ok (.bipush 9, 2) := by decide +kernel
theorem dX10_readSort_23 : decode cX10_readSort 23 = .ok (.invokevirtual 57, 3) := by decide +kernel
theorem dX10_readSort_26 : decode cX10_readSort 26 = .ok (.ifCond .ne 5, 3) := by decide +kernel
theorem dX10_readSort_29 : decode cX10_readSort 29 = .ok (.iconst 0, 1) := by decide +kernel
theorem dX10_readSort_30 : decode cX10_readSort 30 = .ok (.ireturn, 1) := by decide +kernel
theorem dX10_readSort_31 : decode cX10_readSort 31 = .ok (.aload_n 1, 1) := by decide +kernel
theorem dX10_readSort_32 : decode cX10_readSort 32 = .ok (.iload_n 2, 1) := by decide +kernel
theorem dX10_readSort_33 : decode cX10_readSort 33 = .ok (.aload_n 0, 1) := by decide +kernel
theorem dX10_readSort_34 : decode cX10_readSort 34 = .ok (.getfield 61, 3) := by decide +kernel
theorem dX10_readSort_37 : decode cX10_readSort 37 = .ok (.invokevirtual 77, 3) := by decide +kernel
theorem dX10_readSort_40 : decode cX10_readSort 40 = .ok (.aload_n 0, 1) := by decide +kernel
theorem dX10_readSort_41 : decode cX10_readSort 41 = .ok (.invokevirtual 70, 3) := by decide +kernel
theorem dX10_readSort_44 : decode cX10_readSort 44 = .ok (.ireturn, 1) := by decide +kernel
theorem dX10_readNumber_0 : decode cX10_readNumber 0 = .ok (.aload_n 0, 1) := by decide +kernel
theorem dX10_readNumber_1 : decode cX10_readNumber 1 = .ok (.invokevirtual 31, 3) := by decide +kernel
theorem dX10_readNumber_4 : decode cX10_readNumber 4 = .ok (.aload_n 0, 1) := by decide +kernel
theorem dX10_readNumber_5 : decode cX10_readNumber 5 = .ok (.getfield 34, 3) := by decide +kernel
theorem dX10_readNumber_8 : decode cX10_readNumber 8 = .ok (.bipush (-2), 2) := by decide +kernel
theorem dX10_readNumber_10 : decode cX10_readNumber 10 = .ok (.if_icmp .ne 23, 3) := by decide +kernel
theorem dX10_readNumber_13 : decode cX10_readNumber 13 = .ok (.aload_n 0, 1) := by decide +kernel
theorem dX10_readNumber_14 : decode cX10_readNumber 14 = .ok (.getfield 61, 3) := by decide +kernel
theorem dX10_readNumber_17 : decode cX10_readNumber 17 = .ok (.iload_n 1, 1) := by decide +kernel
theorem dX10_readNumber_18 : decode cX10_readNumber 18 = .ok (.if_icmp .lt 15, 3) := by decide +kernel
theorem dX10_readNumber_21 : decode cX10_readNumber 21 = .ok (.aload_n 0, 1) := by decide +kernel
theorem dX10_readNumber_22 : decode cX10_readNumber 22 = .ok (.getfield 61, 3) := by decide +kernel
theorem dX10_readNumber_25 : decode cX10_readNumber 25 = .ok (.iload_n 2, 1) := by decide +kernel
theorem dX10_readNumber_26 : decode cX10_readNumber 26 = .ok (.if_icmp .gt 7, 3) := by decide +kernel
theorem dX10_readNumber_29 : decode cX10_readNumber 29 = .ok (.iconst 1, 1) := by decide +kernel
theorem dX10_readNumber_30 : decode cX10_readNumber 30 = .ok (.goto 4, 3) := by decide +kernel
theorem dX10_readNumber_33 : decode cX10_readNumber 33 = .ok (.iconst 0, 1) := by decide +kernel
theorem dX10_readNumber_34 : decode cX10_readNumber 34 = .ok (.ireturn, 1) := by decide +kernel
theorem dX10_readSemicolon_0 : decode cX10_readSemicolon 0 = .ok (.aload_n 0, 1) := by decide +kernel
theorem dX10_readSemicolon_1 : decode cX10_readSemicolon 1 = .ok (.invokevirtual 31, 3) := by decide +kernel
theorem dX10_readSemicolon_4 : decode cX10_readSemicolon 4 = .ok (.aload_n 0, 1) := by decide +kernel
theorem dX10_readSemicolon_5 : decode cX10_readSemicolon 5 = .ok (.getfield 34, 3) := by decide +kernel
theorem dX10_readSemicolon_8 : decode cX10_readSemicolon 8 = .ok (.bipush 59, 2) := by decide +kernel
theorem dX10_readSemicolon_10 : decode cX10_readSemicolon 10 = .ok (.if_icmp .ne 7, 3) := by decide +kernel
theorem dX10_readSemicolon_13 : decode cX10_readSemicolon 13 = .ok (.iconst 1, 1) := by decide +kernel
theorem dX10_readSemicolon_14 : decode cX10_readSemicolon 14 = .ok (.goto 4, 3) := by decide +kernel
theorem dX10_readSemicolon_17 : decode cX10_readSemicolon 17 = .ok (.iconst 0, 1) := by decide +kernel
theorem dX10_readSemicolon_18 : decode cX10_readSemicolon 18 = .ok (.ireturn, 1) := by decide +kernel
theorem dX10_readToken_0 : decode cX10_readToken 0 = .ok (.aload_n 0, 1) := by decide +kernel
theorem dX10_readToken_1 : decode cX10_readToken 1 = .ok (.getfield 28, 3) := by decide +kernel
theorem dX10_readToken_4 : decode cX10_readToken 4 = .ok (.aload_n 0, 1) := by decide +kernel
theorem dX10_readToken_5 : decode cX10_readToken 5 = .ok (.getfield 15, 3) := by decide +kernel
theorem dX10_readToken_8 : decode cX10_readToken 8 = .ok (.if_icmp .ge 30, 3) := by decide +kernel
theorem dX10_readToken_11 : decode cX10_readToken 11 = .ok (.aload_n 0, 1) := by decide +kernel
theorem dX10_readToken_12 : decode cX10_readToken 12 = .ok (.getfield 9, 3) := by decide +kernel
theorem dX10_readToken_15 : decode cX10_readToken 15 = .ok (.aload_n 0, 1) := by decide +kernel
theorem dX10_readToken_16 : decode cX10_readToken 16 = .ok (.getfield 28, 3) := by decide +kernel
theorem dX10_readToken_19 : decode cX10_readToken 19 = .ok (.iaload, 1) := by decide +kernel
theorem dX10_readToken_20 : decode cX10_readToken 20 = .ok (.bipush 32, 2) := by decide +kernel
theorem dX10_readToken_22 : decode cX10_readToken 22 = .ok (.if_icmp .ne 16, 3) := by decide +kernel
theorem dX10_readToken_25 : decode cX10_readToken 25 = .ok (.aload_n 0, 1) := by decide +kernel
theorem dX10_readToken_26 : decode cX10_readToken 26 = .ok (.dup, 1) := by decide +kernel
theorem dX10_readToken_27 : decode cX10_readToken 27 = .ok (.getfield 28, 3) := by decide +kernel
theorem dX10_readToken_30 : decode cX10_readToken 30 = .ok (.iconst 1, 1) := by decide +kernel
theorem dX10_readToken_31 : decode cX10_readToken 31 = .ok (.iadd, 1) := by decide +kernel
theorem dX10_readToken_32 : decode cX10_readToken 32 = .ok (.putfield 28, 3) := by decide +kernel
theorem dX10_readToken_35 : decode cX10_readToken 35 = .ok (.goto (-35), 3) := by decide +kernel
theorem dX10_readToken_38 : decode cX10_readToken 38 = .ok (.aload_n 0, 1) := by decide +kernel
theorem dX10_readToken_39 : decode cX10_readToken 39 = .ok (.aload_n 0, 1) := by decide +kernel
theorem dX10_readToken_40 : decode cX10_readToken 40 = .ok (.getfield 28, 3) := by decide +kernel
theorem dX10_readToken_43 : decode cX10_readToken 43 = .ok (.putfield 41, 3) := by decide +kernel
theorem dX10_readToken_46 : decode cX10_readToken 46 = .ok (.aload_n 0, 1) := by decide +kernel
theorem dX10_readToken_47 : decode cX10_readToken 47 = .ok (.getfield 28, 3) := by decide +kernel
theorem dX10_readToken_50 : decode cX10_readToken 50 = .ok (.aload_n 0, 1) := by decide +kernel
theorem dX10_readToken_51 : decode cX10_readToken 51 = .ok (.getfield 15, 3) := by decide +kernel
theorem dX10_readToken_54 : decode cX10_readToken 54 = .ok (.if_icmp .lt 9, 3) := by decide +kernel
theorem dX10_readToken_57 : decode cX10_readToken 57 = .ok (.aload_n 0, 1) := by decide +kernel
theorem dX10_readToken_58 : decode cX10_readToken 58 = .ok (.iconst (-1), 1) := by decide +kernel
theorem dX10_readToken_59 : decode cX10_readToken 59 = .ok (.putfield 34, 3) := by decide +kernel
theorem dX10_readToken_62 : decode cX10_readToken 62 = .ok (.return_, 1) := by decide +kernel
theorem dX10_readToken_63 : decode cX10_readToken 63 = .ok (.aload_n 0, 1) := by decide +kernel
theorem dX10_readToken_64 : decode cX10_readToken 64 = .ok (.getfield 9, 3) := by decide +kernel
theorem dX10_readToken_67 : decode cX10_readToken 67 = .ok (.aload_n 0, 1) := by decide +kernel
theorem dX10_readToken_68 : decode cX10_readToken 68 = .ok (.getfield 28, 3) := by decide +kernel
theorem dX10_readToken_71 : decode cX10_readToken 71 = .ok (.iaload, 1) := by decide +kernel
theorem dX10_readToken_72 : decode cX10_readToken 72 = .ok (.istore_n 1, 1) := by decide +kernel
theorem dX10_readToken_73 : decode cX10_readToken 73 = .ok (.iload_n 1, 1) := by decide +kernel
theorem dX10_readToken_74 : decode cX10_readToken 74 = .ok (.bipush 48, 2) := by decide +kernel
theorem dX10_readToken_76 : decode cX10_readToken 76 = .ok (.if_icmp .lt 16, 3) := by decide +kernel
theorem dX10_readToken_79 : decode cX10_readToken 79 = .ok (.iload_n 1, 1) := by decide +kernel
theorem dX10_readToken_80 : decode cX10_readToken 80 = .ok (.bipush 57, 2) := by decide +kernel
theorem dX10_readToken_82 : decode cX10_readToken 82 = .ok (.if_icmp .gt 10, 3) := by decide +kernel
theorem dX10_readToken_85 : decode cX10_readToken 85 = .ok (.aload_n 0, 1) := by decide +kernel
theorem dX10_readToken_86 : decode cX10_readToken 86 = .ok (.invokevirtual 81, 3) := by decide +kernel
theorem dX10_readToken_89 : decode cX10_readToken 89 = .ok (.goto 47, 3) := by decide +kernel
theorem dX10_readToken_92 : decode cX10_readToken 92 = .ok (.aload_n 0, 1) := by decide +kernel
theorem dX10_readToken_93 : decode cX10_readToken 93 = .ok (.iload_n 1, 1) := by decide +kernel
theorem dX10_readToken_94 : decode cX10_readToken 94 = .ok (.bipush 114, 2) := by decide +kernel
theorem dX10_readToken_96 : decode cX10_readToken 96 = .ok (.if_icmp .eq 21, 3) := by decide +kernel
theorem dX10_readToken_99 : decode cX10_readToken 99 = .ok (.iload_n 1, 1) := by decide +kernel
theorem dX10_readToken_100 : decode cX10_readToken 100 = .ok (.bipush 104, 2) := by decide +kernel
theorem dX10_readToken_102 : decode cX10_readToken 102 = .ok (.if_icmp .eq 15, 3) := by decide +kernel
theorem dX10_readToken_105 : decode cX10_readToken 105 = .ok (.iload_n 1, 1) := by decide +kernel
theorem dX10_readToken_106 : decode cX10_readToken 106 = .ok (.bipush 115, 2) := by decide +kernel
theorem dX10_readToken_108 : decode cX10_readToken 108 = .ok (.if_icmp .eq 9, 3) := by decide +kernel
theorem dX10_readToken_111 : decode cX10_readToken 111 = .ok (.iload_n 1, 1) := by decide +kernel
theorem dX10_readToken_112 : decode cX10_readToken 112 = .ok (.bipush 59, 2) := by decide +kernel
theorem dX10_readToken_114 : decode cX10_readToken 114 = .ok (.if_icmp .ne 7, 3) := by decide +kernel
theorem dX10_readToken_117 : decode cX10_readToken 117 = .ok (.iload_n 1, 1) := by decide +kernel
theorem dX10_readToken_118 : decode cX10_readToken 118 = .ok (.goto 5, 3) := by decide +kernel
theorem dX10_readToken_121 : decode cX10_readToken 121 = .ok (.bipush (-3), 2) := by decide +kernel
theorem dX10_readToken_123 : decode cX10_readToken 123 = .ok (.putfield 34, 3) := by decide +kernel
theorem dX10_readToken_126 : decode cX10_readToken 126 = .ok (.aload_n 0, 1) := by decide +kernel
theorem dX10_readToken_127 : decode cX10_readToken 127 = .ok (.dup, 1) := by decide +kernel
theorem dX10_readToken_128 : decode cX10_readToken 128 = .ok (.getfield 28, 3) := by decide +kernel
theorem dX10_readToken_131 : decode cX10_readToken 131 = .ok (.iconst 1, 1) := by decide +kernel
theorem dX10_readToken_132 : decode cX10_readToken 132 = .ok (.iadd, 1) := by decide +kernel
theorem dX10_readToken_133 : decode cX10_readToken 133 = .ok (.putfield 28, 3) := by decide +kernel
theorem dX10_readToken_136 : decode cX10_readToken 136 = .ok (.return_, 1) := by decide +kernel
theorem dX10_readDigits_0 : decode cX10_readDigits 0 = .ok (.aload_n 0, 1) := by decide +kernel
theorem dX10_readDigits_1 : decode cX10_readDigits 1 = .ok (.iconst 0, 1) := by decide +kernel
theorem dX10_readDigits_2 : decode cX10_readDigits 2 = .ok (.putfield 61, 3) := by decide +kernel
theorem dX10_readDigits_5 : decode cX10_readDigits 5 = .ok (.aload_n 0, 1) := by decide +kernel
theorem dX10_readDigits_6 : decode cX10_readDigits 6 = .ok (.getfield 28, 3) := by decide +kernel
theorem dX10_readDigits_9 : decode cX10_readDigits 9 = .ok (.aload_n 0, 1) := by decide +kernel
theorem dX10_readDigits_10 : decode cX10_readDigits 10 = .ok (.getfield 15, 3) := by decide +kernel
theorem dX10_readDigits_13 : decode cX10_readDigits 13 = .ok (.if_icmp .ge 88, 3) := by decide +kernel
theorem dX10_readDigits_16 : decode cX10_readDigits 16 = .ok (.aload_n 0, 1) := by decide +kernel
theorem dX10_readDigits_17 : decode cX10_readDigits 17 = .ok (.getfield 9, 3) := by decide +kernel
theorem dX10_readDigits_20 : decode cX10_readDigits 20 = .ok (.aload_n 0, 1) := by decide +kernel
theorem dX10_readDigits_21 : decode cX10_readDigits 21 = .ok (.getfield 28, 3) := by decide +kernel
theorem dX10_readDigits_24 : decode cX10_readDigits 24 = .ok (.iaload, 1) := by decide +kernel
theorem dX10_readDigits_25 : decode cX10_readDigits 25 = .ok (.bipush 48, 2) := by decide +kernel
theorem dX10_readDigits_27 : decode cX10_readDigits 27 = .ok (.if_icmp .lt 74, 3) := by decide +kernel
theorem dX10_readDigits_30 : decode cX10_readDigits 30 = .ok (.aload_n 0, 1) := by decide +kernel
theorem dX10_readDigits_31 : decode cX10_readDigits 31 = .ok (.getfield 9, 3) := by decide +kernel
theorem dX10_readDigits_34 : decode cX10_readDigits 34 = .ok (.aload_n 0, 1) := by decide +kernel
theorem dX10_readDigits_35 : decode cX10_readDigits 35 = .ok (.getfield 28, 3) := by decide +kernel
theorem dX10_readDigits_38 : decode cX10_readDigits 38 = .ok (.iaload, 1) := by decide +kernel
theorem dX10_readDigits_39 : decode cX10_readDigits 39 = .ok (.bipush 57, 2) := by decide +kernel
theorem dX10_readDigits_41 : decode cX10_readDigits 41 = .ok (.if_icmp .gt 60, 3) := by decide +kernel
theorem dX10_readDigits_44 : decode cX10_readDigits 44 = .ok (.aload_n 0, 1) := by decide +kernel
theorem dX10_readDigits_45 : decode cX10_readDigits 45 = .ok (.aload_n 0, 1) := by decide +kernel
theorem dX10_readDigits_46 : decode cX10_readDigits 46 = .ok (.getfield 28, 3) := by decide +kernel
theorem dX10_readDigits_49 : decode cX10_readDigits 49 = .ok (.aload_n 0, 1) := by decide +kernel
theorem dX10_readDigits_50 : decode cX10_readDigits 50 = .ok (.getfield 41, 3) := by decide +kernel
theorem dX10_readDigits_53 : decode cX10_readDigits 53 = .ok (.isub, 1) := by decide +kernel
theorem dX10_readDigits_54 : decode cX10_readDigits 54 = .ok (.iconst 2, 1) := by decide +kernel
theorem dX10_readDigits_55 : decode cX10_readDigits 55 = .ok (.if_icmp .ge 26, 3) := by decide +kernel
theorem dX10_readDigits_58 : decode cX10_readDigits 58 = .ok (.aload_n 0, 1) := by decide +kernel
theorem dX10_readDigits_59 : decode cX10_readDigits 59 = .ok (.getfield 61, 3) := by decide +kernel
theorem dX10_readDigits_62 : decode cX10_readDigits 62 = .ok (.bipush 10, 2) := by decide +kernel
theorem dX10_readDigits_64 : decode cX10_readDigits 64 = .ok (.imul, 1) := by decide +kernel
theorem dX10_readDigits_65 : decode cX10_readDigits 65 = .ok (.aload_n 0, 1) := by decide +kernel
theorem dX10_readDigits_66 : decode cX10_readDigits 66 = .ok (.getfield 9, 3) := by decide +kernel
theorem dX10_readDigits_69 : decode cX10_readDigits 69 = .ok (.aload_n 0, 1) := by decide +kernel
theorem dX10_readDigits_70 : decode cX10_readDigits 70 = .ok (.getfield 28, 3) := by decide +kernel
theorem dX10_readDigits_73 : decode cX10_readDigits 73 = .ok (.iaload, 1) := by decide +kernel
theorem dX10_readDigits_74 : decode cX10_readDigits 74 = .ok (.iadd, 1) := by decide +kernel
theorem dX10_readDigits_75 : decode cX10_readDigits 75 = .ok (.bipush 48, 2) := by decide +kernel
theorem dX10_readDigits_77 : decode cX10_readDigits 77 = .ok (.isub, 1) := by decide +kernel
theorem dX10_readDigits_78 : decode cX10_readDigits 78 = .ok (.goto 7, 3) := by decide +kernel
theorem dX10_readDigits_81 : decode cX10_readDigits 81 = .ok (.aload_n 0, 1) := by decide +kernel
theorem dX10_readDigits_82 : decode cX10_readDigits 82 = .ok (.getfield 61, 3) := by decide +kernel
theorem dX10_readDigits_85 : decode cX10_readDigits 85 = .ok (.putfield 61, 3) := by decide +kernel
theorem dX10_readDigits_88 : decode cX10_readDigits 88 = .ok (.aload_n 0, 1) := by decide +kernel
theorem dX10_readDigits_89 : decode cX10_readDigits 89 = .ok (.dup, 1) := by decide +kernel
theorem dX10_readDigits_90 : decode cX10_readDigits 90 = .ok (.getfield 28, 3) := by decide +kernel
theorem dX10_readDigits_93 : decode cX10_readDigits 93 = .ok (.iconst 1, 1) := by decide +kernel
theorem dX10_readDigits_94 : decode cX10_readDigits 94 = .ok (.iadd, 1) := by decide +kernel
theorem dX10_readDigits_95 : decode cX10_readDigits 95 = .ok (.putfield 28, 3) := by decide +kernel
theorem dX10_readDigits_98 : decode cX10_readDigits 98 = .ok (.goto (-93), 3) := by decide +kernel
theorem dX10_readDigits_101 : decode cX10_readDigits 101 = .ok (.aload_n 0, 1) := by decide +kernel
theorem dX10_readDigits_102 : decode cX10_readDigits 102 = .ok (.getfield 28, 3) := by decide +kernel
theorem dX10_readDigits_105 : decode cX10_readDigits 105 = .ok (.aload_n 0, 1) := by decide +kernel
theorem dX10_readDigits_106 : decode cX10_readDigits 106 = .ok (.getfield 41, 3) := by decide +kernel
theorem dX10_readDigits_109 : decode cX10_readDigits 109 = .ok (.isub, 1) := by decide +kernel
theorem dX10_readDigits_110 : decode cX10_readDigits 110 = .ok (.istore_n 1, 1) := by decide +kernel
theorem dX10_readDigits_111 : decode cX10_readDigits 111 = .ok (.iload_n 1, 1) := by decide +kernel
theorem dX10_readDigits_112 : decode cX10_readDigits 112 = .ok (.iconst 1, 1) := by decide +kernel
theorem dX10_readDigits_113 : decode cX10_readDigits 113 = .ok (.if_icmp .le 16, 3) := by decide +kernel
theorem dX10_readDigits_116 : decode cX10_readDigits 116 = .ok (.aload_n 0, 1) := by decide +kernel
theorem dX10_readDigits_117 : decode cX10_readDigits 117 = .ok (.getfield 61, 3) := by decide +kernel
theorem dX10_readDigits_120 : decode cX10_readDigits 120 = .ok (.bipush 10, 2) := by decide +kernel
theorem dX10_readDigits_122 : decode cX10_readDigits 122 = .ok (.if_icmp .ge 7, 3) := by decide +kernel
theorem dX10_readDigits_125 : decode cX10_readDigits 125 = .ok (.iconst 1, 1) := by decide +kernel
theorem dX10_readDigits_126 : decode cX10_readDigits 126 = .ok (.goto 4, 3) := by decide +kernel
theorem dX10_readDigits_129 : decode cX10_readDigits 129 = .ok (.iconst 0, 1) := by decide +kernel
theorem dX10_readDigits_130 : decode cX10_readDigits 130 = .ok (.istore_n 2, 1) := by decide +kernel
theorem dX10_readDigits_131 : decode cX10_readDigits 131 = .ok (.aload_n 0, 1) := by decide +kernel
theorem dX10_readDigits_132 : decode cX10_readDigits 132 = .ok (.iload_n 1, 1) := by decide +kernel
theorem dX10_readDigits_133 : decode cX10_readDigits 133 = .ok (.iconst 2, 1) := by decide +kernel
theorem dX10_readDigits_134 : decode cX10_readDigits 134 = .ok (.if_icmp .gt 7, 3) := by decide +kernel
theorem dX10_readDigits_137 : decode cX10_readDigits 137 = .ok (.iload_n 2, 1) := by decide +kernel
theorem dX10_readDigits_138 : decode cX10_readDigits 138 = .ok (.ifCond .eq 8, 3) := by decide +kernel
theorem dX10_readDigits_141 : decode cX10_readDigits 141 = .ok (.bipush (-3), 2) := by decide +kernel
theorem dX10_readDigits_143 : decode cX10_readDigits 143 = .ok (.goto 5, 3) := by decide +kernel
theorem dX10_readDigits_146 : decode cX10_readDigits 146 = .ok (.bipush (-2), 2) := by decide +kernel
theorem dX10_readDigits_148 : decode cX10_readDigits 148 = .ok (.putfield 34, 3) := by decide +kernel
theorem dX10_readDigits_151 : decode cX10_readDigits 151 = .ok (.return_, 1) := by decide +kernel
theorem dX11_init_0 : decode cX11_init 0 = .ok (.aload_n 0, 1) := by decide +kernel
theorem dX11_init_1 : decode cX11_init 1 = .ok (.invokespecial 1, 3) := by decide +kernel
theorem dX11_init_4 : decode cX11_init 4 = .ok (.aload_n 0, 1) := by decide +kernel
theorem dX11_init_5 : decode cX11_init 5 = .ok (.new 7, 3) := by decide +kernel
theorem dX11_init_8 : decode cX11_init 8 = .ok (.dup, 1) := by decide +kernel
theorem dX11_init_9 : decode cX11_init 9 = .ok (.invokespecial 9, 3) := by decide +kernel
theorem dX11_init_12 : decode cX11_init 12 = .ok (.putfield 10, 3) := by decide +kernel
theorem dX11_init_15 : decode cX11_init 15 = .ok (.aload_n 0, 1) := by decide +kernel
theorem dX11_init_16 : decode cX11_init 16 = .ok (.new 16, 3) := by decide +kernel
theorem dX11_init_19 : decode cX11_init 19 = .ok (.dup, 1) := by decide +kernel
theorem dX11_init_20 : decode cX11_init 20 = .ok (.invokespecial 18, 3) := by decide +kernel
theorem dX11_init_23 : decode cX11_init 23 = .ok (.putfield 19, 3) := by decide +kernel
theorem dX11_init_26 : decode cX11_init 26 = .ok (.aload_n 0, 1) := by decide +kernel
theorem dX11_init_27 : decode cX11_init 27 = .ok (.new 16, 3) := by decide +kernel
theorem dX11_init_30 : decode cX11_init 30 = .ok (.dup, 1) := by decide +kernel
theorem dX11_init_31 : decode cX11_init 31 = .ok (.invokespecial 18, 3) := by decide +kernel
theorem dX11_init_34 : decode cX11_init 34 = .ok (.putfield 23, 3) := by decide +kernel
theorem dX11_init_37 : decode cX11_init 37 = .ok (.aload_n 0, 1) := by decide +kernel
theorem dX11_init_38 : decode cX11_init 38 = .ok (.new 26, 3) := by decide +kernel
theorem dX11_init_41 : decode cX11_init 41 = .ok (.dup, 1) := by decide +kernel
theorem dX11_init_42 : decode cX11_init 42 = .ok (.aload_n 0, 1) := by decide +kernel
theorem dX11_init_43 : decode cX11_init 43 = .ok (.getfield 19, 3) := by decide +kernel
theorem dX11_init_46 : decode cX11_init 46 = .ok (.invokespecial 28, 3) := by decide +kernel
theorem dX11_init_49 : decode cX11_init 49 = .ok (.putfield 31, 3) := by decide +kernel
theorem dX11_init_52 : decode cX11_init 52 = .ok (.aload_n 0, 1) := by decide +kernel
theorem dX11_init_53 : decode cX11_init 53 = .ok (.new 26, 3) := by decide +kernel
theorem dX11_init_56 : decode cX11_init 56 = .ok (.dup, 1) := by decide +kernel
theorem dX11_init_57 : decode cX11_init 57 = .ok (.aload_n 0, 1) := by decide +kernel
theorem dX11_init_58 : decode cX11_init 58 = .ok (.getfield 19, 3) := by decide +kernel
theorem dX11_init_61 : decode cX11_init 61 = .ok (.invokespecial 28, 3) := by decide +kernel
theorem dX11_init_64 : decode cX11_init 64 = .ok (.putfield 35, 3) := by decide +kernel
theorem dX11_init_67 : decode cX11_init 67 = .ok (.aload_n 0, 1) := by decide +kernel
theorem dX11_init_68 : decode cX11_init 68 = .ok (.new 38, 3) := by decide +kernel
theorem dX11_init_71 : decode cX11_init 71 = .ok (.dup, 1) := by decide +kernel
theorem dX11_init_72 : decode cX11_init 72 = .ok (.aload_n 0, 1) := by decide +kernel
theorem dX11_init_73 : decode cX11_init 73 = .ok (.getfield 19, 3) := by decide +kernel
theorem dX11_init_76 : decode cX11_init 76 = .ok (.invokespecial 40, 3) := by decide +kernel
theorem dX11_init_79 : decode cX11_init 79 = .ok (.putfield 41, 3) := by decide +kernel
theorem dX11_init_82 : decode cX11_init 82 = .ok (.aload_n 0, 1) := by decide +kernel
theorem dX11_init_83 : decode cX11_init 83 = .ok (.iconst 2, 1) := by decide +kernel
theorem dX11_init_84 : decode cX11_init 84 = .ok (.anewarray 26, 3) := by decide +kernel
theorem dX11_init_87 : decode cX11_init 87 = .ok (.dup, 1) := by decide +kernel
theorem dX11_init_88 : decode cX11_init 88 = .ok (.iconst 0, 1) := by decide +kernel
theorem dX11_init_89 : decode cX11_init 89 = .ok (.new 26, 3) := by decide +kernel
theorem dX11_init_92 : decode cX11_init 92 = .ok (.dup, 1) := by decide +kernel
theorem dX11_init_93 : decode cX11_init 93 = .ok (.aload_n 0, 1) := by decide +kernel
theorem dX11_init_94 : decode cX11_init 94 = .ok (.getfield 19, 3) := by decide +kernel
theorem dX11_init_97 : decode cX11_init 97 = .ok (.invokespecial 28, 3) := by decide +kernel
theorem dX11_init_100 : decode cX11_init 100 = .ok (.aastore, 1) := by decide +kernel
theorem dX11_init_101 : decode cX11_init 101 = .ok (.dup, 1) := by decide +kernel
theorem dX11_init_102 : decode cX11_init 102 = .ok (.iconst 1, 1) := by decide +kernel
theorem dX11_init_103 : decode cX11_init 103 = .ok (.new 26, 3) := by decide +kernel
theorem dX11_init_106 : decode cX11_init 106 = .ok (.dup, 1) := by decide +kernel
theorem dX11_init_107 : decode cX11_init 107 = .ok (.aload_n 0, 1) := by decide +kernel
theorem dX11_init_108 : decode cX11_init 108 = .ok (.getfield 19, 3) := by decide +kernel
theorem dX11_init_111 : decode cX11_init 111 = .ok (.invokespecial 28, 3) := by decide +kernel
theorem dX11_init_114 : decode cX11_init 114 = .ok (.aastore, 1) := by decide +kernel
theorem dX11_init_115 : decode cX11_init 115 = .ok (.putfield 45, 3) := by decide +kernel
theorem dX11_init_118 : decode cX11_init 118 = .ok (.aload_n 0, 1) := by decide +kernel
theorem dX11_init_119 : decode cX11_init 119 = .ok (.iconst 2, 1) := by decide +kernel
theorem dX11_init_120 : decode cX11_init 120 = .ok (.newarray .boolean, 2) := by decide +kernel
theorem dX11_init_122 : decode cX11_init 122 = .ok (.putfield 49, 3) := by decide +kernel
theorem dX11_init_125 : decode cX11_init 125 = .ok (.aload_n 0, 1) := by decide +kernel
theorem dX11_init_126 : decode cX11_init 126 = .ok (.new 53, 3) := by decide +kernel
theorem dX11_init_129 : decode cX11_init 129 = .ok (.dup, 1) := by decide +kernel
theorem dX11_init_130 : decode cX11_init 130 = .ok (.aload_n 0, 1) := by decide +kernel
theorem dX11_init_131 : decode cX11_init 131 = .ok (.getfield 19, 3) := by decide +kernel
theorem dX11_init_134 : decode cX11_init 134 = .ok (.invokespecial 55, 3) := by decide +kernel
theorem dX11_init_137 : decode cX11_init 137 = .ok (.putfield 56, 3) := by decide +kernel
theorem dX11_init_140 : decode cX11_init 140 = .ok (.aload_n 0, 1) := by decide +kernel
theorem dX11_init_141 : decode cX11_init 141 = .ok (.bipush 82, 2) := by decide +kernel
theorem dX11_init_143 : decode cX11_init 143 = .ok (.newarray .long, 2) := by decide +kernel
theorem dX11_init_145 : decode cX11_init 145 = .ok (.putfield 60, 3) := by decide +kernel
theorem dX11_init_148 : decode cX11_init 148 = .ok (.aload_n 0, 1) := by decide +kernel
theorem dX11_init_149 : decode cX11_init 149 = .ok (.bipush 6, 2) := by decide +kernel
theorem dX11_init_151 : decode cX11_init 151 = .ok (.anewarray 64, 3) := by decide +kernel
theorem dX11_init_154 : decode cX11_init 154 = .ok (.dup, 1) := by decide +kernel
theorem dX11_init_155 : decode cX11_init 155 = .ok (.iconst 0, 1) := by decide +kernel
theorem dX11_init_156 : decode cX11_init 156 = .ok (.new 64, 3) := by decide +kernel
theorem dX11_init_159 : decode cX11_init 159 = .ok (.dup, 1) := by decide +kernel
theorem dX11_init_160 : decode cX11_init 160 = .ok (.invokespecial 66, 3) := by decide +kernel
theorem dX11_init_163 : decode cX11_init 163 = .ok (.aastore, 1) := by decide +kernel
theorem dX11_init_164 : decode cX11_init 164 = .ok (.dup, 1) := by decide +kernel
theorem dX11_init_165 : decode cX11_init 165 = .ok (.iconst 1, 1) := by decide +kernel
theorem dX11_init_166 : decode cX11_init 166 = .ok (.new 67, 3) := by decide +kernel
theorem dX11_init_169 : decode cX11_init 169 = .ok (.dup, 1) := by decide +kernel
theorem dX11_init_170 : decode cX11_init 170 = .ok (.invokespecial 69, 3) := by decide +kernel
theorem dX11_init_173 : decode cX11_init 173 = .ok (.aastore, 1) := by decide +kernel
theorem dX11_init_174 : decode cX11_init 174 = .ok (.dup, 1) := by decide +kernel
theorem dX11_init_175 : decode cX11_init 175 = .ok (.iconst 2, 1) := by decide +kernel
theorem dX11_init_176 : decode cX11_init 176 = .ok (.new 70, 3) := by decide +kernel
theorem dX11_init_179 : decode cX11_init 179 = .ok (.dup, 1) := by decide +kernel
theorem dX11_init_180 : decode cX11_init 180 = .ok (.invokespecial 72, 3) := by decide +kernel
theorem dX11_init_183 : decode cX11_init 183 = .ok (.aastore, 1) := by decide +kernel
theorem dX11_init_184 : decode cX11_init 184 = .ok (.dup, 1) := by decide +kernel
theorem dX11_init_185 : decode cX11_init 185 = .ok (.iconst 3, 1) := by decide +kernel
theorem dX11_init_186 : decode cX11_init 186 = .ok (.new 73, 3) := by decide +kernel
theorem dX11_init_189 : decode cX11_init 189 = .ok (.dup, 1) := by decide +kernel
theorem dX11_init_190 : decode cX11_init 190 = .ok (.invokespecial 75, 3) := by decide +kernel
theorem dX11_init_193 : decode cX11_init 193 = .ok (.aastore, 1) := by decide +kernel
theorem dX11_init_194 : decode cX11_init 194 = .ok (.dup, 1) := by decide +kernel
theorem dX11_init_195 : decode cX11_init 195 = .ok (.iconst 4, 1) := by decide +kernel
theorem dX11_init_196 : decode cX11_init 196 = .ok (.new 76, 3) := by decide +kernel
theorem dX11_init_199 : decode cX11_init 199 = .ok (.dup, 1) := by decide +kernel
theorem dX11_init_200 : decode cX11_init 200 = .ok (.invokespecial 78, 3) := by decide +kernel
theorem dX11_init_203 : decode cX11_init 203 = .ok (.aastore, 1) := by decide +kernel
theorem dX11_init_204 : decode cX11_init 204 = .ok (.dup, 1) := by decide +kernel
theorem dX11_init_205 : decode cX11_init 205 = .ok (.iconst 5, 1) := by decide +kernel
theorem dX11_init_206 : decode cX11_init 206 = .ok (.new 79, 3) := by decide +kernel
theorem dX11_init_209 : decode cX11_init 209 = .ok (.dup, 1) := by decide +kernel
theorem dX11_init_210 : decode cX11_init 210 = .ok (.invokespecial 81, 3) := by decide +kernel
theorem dX11_init_213 : decode cX11_init 213 = .ok (.aastore, 1) := by decide +kernel
theorem dX11_init_214 : decode cX11_init 214 = .ok (.putfield 82, 3) := by decide +kernel
theorem dX11_init_217 : decode cX11_init 217 = .ok (.return_, 1) := by decide +kernel
theorem dX11_type_0 : decode cX11_type 0 = .ok (.iload_n 1, 1) := by decide +kernel
theorem dX11_type_1 : decode cX11_type 1 = .ok (.ifCond .lt 10, 3) := by decide +kernel
theorem dX11_type_4 : decode cX11_type 4 = .ok (.iload_n 1, 1) := by decide +kernel
theorem dX11_type_5 : decode cX11_type 5 = .ok (.sipush 255, 3) := by decide +kernel
theorem dX11_type_8 : decode cX11_type 8 = .ok (.if_icmp .le 5, 3) := by decide +kernel
theorem dX11_type_11 : decode cX11_type 11 = .ok (.iconst (-1), 1) := by decide +kernel
theorem dX11_type_12 : decode cX11_type 12 = .ok (.ireturn, 1) := by decide +kernel
theorem dX11_type_13 : decode cX11_type 13 = .ok (.aload_n 0, 1) := by decide +kernel
theorem dX11_type_14 : decode cX11_type 14 = .ok (.getfield 10, 3) := by decide +kernel
theorem dX11_type_17 : decode cX11_type 17 = .ok (.iload_n 1, 1) := by decide +kernel
theorem dX11_type_18 : decode cX11_type 18 = .ok (.invokevirtual 86, 3) := by decide +kernel
theorem dX11_type_21 : decode cX11_type 21 = .ok (.ifCond .eq 13, 3) := by decide +kernel
theorem dX11_type_24 : decode cX11_type 24 = .ok (.aload_n 0, 1) := by decide +kernel
theorem dX11_type_25 : decode cX11_type 25 = .ok (.getfield 10, 3) := by decide +kernel
theorem dX11_type_28 : decode cX11_type 28 = .ok (.getfield 90, 3) := by decide +kernel
theorem dX11_type_31 : decode cX11_type 31 = .ok (.goto 5, 3) := by decide +kernel
theorem dX11_type_34 : decode cX11_type 34 = .ok (.bipush (-3), 2) := by decide +kernel
theorem dX11_type_36 : decode cX11_type 36 = .ok (.ireturn, 1) := by decide +kernel
theorem dX11_clear_0 : decode cX11_clear 0 = .ok (.aload_n 0, 1) := by decide +kernel
theorem dX11_clear_1 : decode cX11_clear 1 = .ok (.getfield 10, 3) := by decide +kernel
theorem dX11_clear_4 : decode cX11_clear 4 = .ok (.getfield 90, 3) := by decide +kernel
theorem dX11_clear_7 : decode cX11_clear 7 = .ok (.istore_n 1, 1) := by decide +kernel
theorem dX11_clear_8 : decode cX11_clear 8 = .ok (.aload_n 0, 1) := by decide +kernel
theorem dX11_clear_9 : decode cX11_clear 9 = .ok (.getfield 10, 3) := by decide +kernel
theorem dX11_clear_12 : decode cX11_clear 12 = .ok (.iconst 0, 1) := by decide +kernel
theorem dX11_clear_13 : decode cX11_clear 13 = .ok (.putfield 90, 3) := by decide +kernel
theorem dX11_clear_16 : decode cX11_clear 16 = .ok (.iload_n 1, 1) := by decide +kernel
theorem dX11_clear_17 : decode cX11_clear 17 = .ok (.ireturn, 1) := by decide +kernel
theorem dX11_door_0 : decode cX11_door 0 = .ok (.aload_n 0, 1) := by decide +kernel
theorem dX11_door_1 : decode cX11_door 1 = .ok (.getfield 10, 3) := by decide +kernel
theorem dX11_door_4 : decode cX11_door 4 = .ok (.aload_n 0, 1) := by decide +kernel
theorem dX11_door_5 : decode cX11_door 5 = .ok (.getfield 23, 3) := by decide +kernel
theorem dX11_door_8 : decode cX11_door 8 = .ok (.invokevirtual 94, 3) := by decide +kernel
theorem dX11_door_11 : decode cX11_door 11 = .ok (.istore_n 1, 1) := by decide +kernel
theorem dX11_door_12 : decode cX11_door 12 = .ok (.iload_n 1, 1) := by decide +kernel
theorem dX11_door_13 : decode cX11_door 13 = .ok (.ifCond .ge 5, 3) := by decide +kernel
theorem dX11_door_16 : decode cX11_door 16 = .ok (.iload_n 1, 1) := by decide +kernel
theorem dX11_door_17 : decode cX11_door 17 = .ok (.ireturn, 1) := by decide +kernel
theorem dX11_door_18 : decode cX11_door 18 = .ok (.aload_n 0, 1) := by decide +kernel
theorem dX11_door_19 : decode cX11_door 19 = .ok (.getfield 19, 3) := by decide +kernel
theorem dX11_door_22 : decode cX11_door 22 = .ok (.aload_n 0, 1) := by decide +kernel
theorem dX11_door_23 : decode cX11_door 23 = .ok (.getfield 23, 3) := by decide +kernel
theorem dX11_door_26 : decode cX11_door 26 = .ok (.invokevirtual 98, 3) := by decide +kernel
theorem dX11_door_29 : decode cX11_door 29 = .ok (.aload_n 0, 1) := by decide +kernel
theorem dX11_door_30 : decode cX11_door 30 = .ok (.getfield 10, 3) := by decide +kernel
theorem dX11_door_33 : decode cX11_door 33 = .ok (.iconst 0, 1) := by decide +kernel
theorem dX11_door_34 : decode cX11_door 34 = .ok (.putfield 90, 3) := by decide +kernel
theorem dX11_door_37 : decode cX11_door 37 = .ok (.aload_n 0, 1) := by decide +kernel
theorem dX11_door_38 : decode cX11_door 38 = .ok (.getfield 31, 3) := by decide +kernel
theorem dX11_door_41 : decode cX11_door 41 = .ok (.invokevirtual 101, 3) := by decide +kernel
theorem dX11_door_44 : decode cX11_door 44 = .ok (.aload_n 0, 1) := by decide +kernel
theorem dX11_door_45 : decode cX11_door 45 = .ok (.getfield 41, 3) := by decide +kernel
theorem dX11_door_48 : decode cX11_door 48 = .ok (.iconst 0, 1) := by decide +kernel
theorem dX11_door_49 : decode cX11_door 49 = .ok (.putfield 104, 3) := by decide +kernel
theorem dX11_door_52 : decode cX11_door 52 = .ok (.aload_n 0, 1) := by decide +kernel
theorem dX11_door_53 : decode cX11_door 53 = .ok (.getfield 56, 3) := by decide +kernel
theorem dX11_door_56 : decode cX11_door 56 = .ok (.iconst 0, 1) := by decide +kernel
theorem dX11_door_57 : decode cX11_door 57 = .ok (.putfield 107, 3) := by decide +kernel
theorem dX11_door_60 : decode cX11_door 60 = .ok (.iconst 0, 1) := by decide +kernel
theorem dX11_door_61 : decode cX11_door 61 = .ok (.istore_n 2, 1) := by decide +kernel
theorem dX11_door_62 : decode cX11_door 62 = .ok (.iload_n 2, 1) := by decide +kernel
theorem dX11_door_63 : decode cX11_door 63 = .ok (.iconst 2, 1) := by decide +kernel
theorem dX11_door_64 : decode cX11_door 64 = .ok (.if_icmp .ge 16, 3) := by decide +kernel
theorem dX11_door_67 : decode cX11_door 67 = .ok (.aload_n 0, 1) := by decide +kernel
theorem dX11_door_68 : decode cX11_door 68 = .ok (.getfield 49, 3) := by decide +kernel
theorem dX11_door_71 : decode cX11_door 71 = .ok (.iload_n 2, 1) := by decide +kernel
theorem dX11_door_72 : decode cX11_door 72 = .ok (.iconst 0, 1) := by decide +kernel
theorem dX11_door_73 : decode cX11_door 73 = .ok (.bastore, 1) := by decide +kernel
theorem dX11_door_74 : decode cX11_door 74 = .ok (.iinc 2 1, 3) := by decide +kernel
theorem dX11_door_77 : decode cX11_door 77 = .ok (.goto (-15), 3) := by decide +kernel
theorem dX11_door_80 : decode cX11_door 80 = .ok (.iload_n 1, 1) := by decide +kernel
theorem dX11_door_81 : decode cX11_door 81 = .ok (.ireturn, 1) := by decide +kernel
theorem dX11_sort_0 : decode cX11_sort 0 = .ok (.aload_n 0, 1) := by decide +kernel
theorem dX11_sort_1 : decode cX11_sort 1 = .ok (.getfield 19, 3) := by decide +kernel
theorem dX11_sort_4 : decode cX11_sort 4 = .ok (.iload_n 1, 1) := by decide +kernel
theorem dX11_sort_5 : decode cX11_sort 5 = .ok (.invokevirtual 108, 3) := by decide +kernel
theorem dX11_sort_8 : decode cX11_sort 8 = .ok (.ifCond .ne 5, 3) := by decide +kernel
theorem dX11_sort_11 : decode cX11_sort 11 = .ok (.iconst (-1), 1) := by decide +kernel
theorem dX11_sort_12 : decode cX11_sort 12 = .ok (.ireturn, 1) := by decide +kernel
theorem dX11_sort_13 : decode cX11_sort 13 = .ok (.iload_n 2, 1) := by decide +kernel
theorem dX11_sort_14 : decode cX11_sort 14 = .ok (.tableswitch 53 0 2 #[26, 35, 44], 26) := by decide +kernel
theorem dX11_sort_40 : decode cX11_sort 40 = .ok (.aload_n 0, 1) := by decide +kernel
theorem dX11_sort_41 : decode cX11_sort 41 = .ok (.getfield 19, 3) := by decide +kernel
theorem dX11_sort_44 : decode cX11_sort 44 = .ok (.iload_n 1, 1) := by decide +kernel
theorem dX11_sort_45 : decode cX11_sort 45 = .ok (.invokevirtual 111, 3) := by decide +kernel
theorem dX11_sort_48 : decode cX11_sort 48 = .ok (.ireturn, 1) := by decide +kernel
theorem dX11_sort_49 : decode cX11_sort 49 = .ok (.aload_n 0, 1) := by decide +kernel
theorem dX11_sort_50 : decode cX11_sort 50 = .ok (.getfield 19, 3) := by decide +kernel
theorem dX11_sort_53 : decode cX11_sort 53 = .ok (.iload_n 1, 1) := by decide +kernel
theorem dX11_sort_54 : decode cX11_sort 54 = .ok (.invokevirtual 115, 3) := by decide +kernel
theorem dX11_sort_57 : decode cX11_sort 57 = .ok (.ireturn, 1) := by decide +kernel
theorem dX11_sort_58 : decode cX11_sort 58 = .ok (.aload_n 0, 1) := by decide +kernel
theorem dX11_sort_59 : decode cX11_sort 59 = .ok (.getfield 31, 3) := by decide +kernel
theorem dX11_sort_62 : decode cX11_sort 62 = .ok (.iload_n 1, 1) := by decide +kernel
theorem dX11_sort_63 : decode cX11_sort 63 = .ok (.invokevirtual 118, 3) := by decide +kernel
theorem dX11_sort_66 : decode cX11_sort 66 = .ok (.ireturn, 1) := by decide +kernel
theorem dX11_sort_67 : decode cX11_sort 67 = .ok (.iconst (-1), 1) := by decide +kernel
theorem dX11_sort_68 : decode cX11_sort 68 = .ok (.ireturn, 1) := by decide +kernel
theorem dX11_goer_0 : decode cX11_goer 0 = .ok (.aload_n 0, 1) := by decide +kernel
theorem dX11_goer_1 : decode cX11_goer 1 = .ok (.getfield 31, 3) := by decide +kernel
theorem dX11_goer_4 : decode cX11_goer 4 = .ok (.iload_n 1, 1) := by decide +kernel
theorem dX11_goer_5 : decode cX11_goer 5 = .ok (.invokevirtual 121, 3) := by decide +kernel
theorem dX11_goer_8 : decode cX11_goer 8 = .ok (.ifCond .ne 5, 3) := by decide +kernel
theorem dX11_goer_11 : decode cX11_goer 11 = .ok (.iconst (-1), 1) := by decide +kernel
theorem dX11_goer_12 : decode cX11_goer 12 = .ok (.ireturn, 1) := by decide +kernel
theorem dX11_goer_13 : decode cX11_goer 13 = .ok (.iload_n 2, 1) := by decide +kernel
theorem dX11_goer_14 : decode cX11_goer 14 = .ok (.tableswitch 131 0 5 #[38, 48, 58, 68, 96, 122], 38) := by decide +kernel
theorem dX11_goer_52 : decode cX11_goer 52 = .ok (.aload_n 0, 1) := by decide +kernel
theorem dX11_goer_53 : decode cX11_goer 53 = .ok (.getfield 31, 3) := by decide +kernel
theorem dX11_goer_56 : decode cX11_goer 56 = .ok (.getfield 124, 3) := by decide +kernel
theorem dX11_goer_59 : decode cX11_goer 59 = .ok (.iload_n 1, 1) := by decide +kernel
theorem dX11_goer_60 : decode cX11_goer 60 = .ok (.iaload, 1) := by decide +kernel
theorem dX11_goer_61 : decode cX11_goer 61 = .ok (.ireturn, 1) := by decide +kernel
theorem dX11_goer_62 : decode cX11_goer 62 = .ok (.aload_n 0, 1) := by decide +kernel
theorem dX11_goer_63 : decode cX11_goer 63 = .ok (.getfield 31, 3) := by decide +kernel
theorem dX11_goer_66 : decode cX11_goer 66 = .ok (.getfield 128, 3) := by decide +kernel
theorem dX11_goer_69 : decode cX11_goer 69 = .ok (.iload_n 1, 1) := by decide +kernel
theorem dX11_goer_70 : decode cX11_goer 70 = .ok (.iaload, 1) := by decide +kernel
theorem dX11_goer_71 : decode cX11_goer 71 = .ok (.ireturn, 1) := by decide +kernel
theorem dX11_goer_72 : decode cX11_goer 72 = .ok (.aload_n 0, 1) := by decide +kernel
theorem dX11_goer_73 : decode cX11_goer 73 = .ok (.getfield 31, 3) := by decide +kernel
theorem dX11_goer_76 : decode cX11_goer 76 = .ok (.getfield 131, 3) := by decide +kernel
theorem dX11_goer_79 : decode cX11_goer 79 = .ok (.iload_n 1, 1) := by decide +kernel
theorem dX11_goer_80 : decode cX11_goer 80 = .ok (.iaload, 1) := by decide +kernel
theorem dX11_goer_81 : decode cX11_goer 81 = .ok (.ireturn, 1) := by decide +kernel
theorem dX11_goer_82 : decode cX11_goer 82 = .ok (.aload_n 0, 1) := by decide +kernel
theorem dX11_goer_83 : decode cX11_goer 83 = .ok (.getfield 31, 3) := by decide +kernel
theorem dX11_goer_86 : decode cX11_goer 86 = .ok (.getfield 131, 3) := by decide +kernel
theorem dX11_goer_89 : decode cX11_goer 89 = .ok (.iload_n 1, 1) := by decide +kernel
theorem dX11_goer_90 : decode cX11_goer 90 = .ok (.iaload, 1) := by decide +kernel
theorem dX11_goer_91 : decode cX11_goer 91 = .ok (.iconst 1, 1) := by decide +kernel
theorem dX11_goer_92 : decode cX11_goer 92 = .ok (.if_icmp .ne 15, 3) := by decide +kernel
theorem dX11_goer_95 : decode cX11_goer 95 = .ok (.aload_n 0, 1) := by decide +kernel
theorem dX11_goer_96 : decode cX11_goer 96 = .ok (.getfield 31, 3) := by decide +kernel
theorem dX11_goer_99 : decode cX11_goer 99 = .ok (.getfield 134, 3) := by decide +kernel
theorem dX11_goer_102 : decode cX11_goer 102 = .ok (.iload_n 1, 1) := by decide +kernel
theorem dX11_goer_103 : decode cX11_goer 103 = .ok (.iaload, 1) := by decide +kernel
theorem dX11_goer_104 : decode cX11_goer 104 = .ok (.goto 5, 3) := by decide +kernel
theorem dX11_goer_107 : decode cX11_goer 107 = .ok (.bipush (-9), 2) := by decide +kernel
theorem dX11_goer_109 : decode cX11_goer 109 = .ok (.ireturn, 1) := by decide +kernel
theorem dX11_goer_110 : decode cX11_goer 110 = .ok (.aload_n 0, 1) := by decide +kernel
theorem dX11_goer_111 : decode cX11_goer 111 = .ok (.getfield 31, 3) := by decide +kernel
theorem dX11_goer_114 : decode cX11_goer 114 = .ok (.getfield 131, 3) := by decide +kernel
theorem dX11_goer_117 : decode cX11_goer 117 = .ok (.iload_n 1, 1) := by decide +kernel
theorem dX11_goer_118 : decode cX11_goer 118 = .ok (.iaload, 1) := by decide +kernel
theorem dX11_goer_119 : decode cX11_goer 119 = .ok (.ifCond .ne 14, 3) := by decide +kernel
theorem dX11_goer_122 : decode cX11_goer 122 = .ok (.aload_n 0, 1) := by decide +kernel
theorem dX11_goer_123 : decode cX11_goer 123 = .ok (.getfield 31, 3) := by decide +kernel
theorem dX11_goer_126 : decode cX11_goer 126 = .ok (.iload_n 1, 1) := by decide +kernel
theorem dX11_goer_127 : decode cX11_goer 127 = .ok (.invokevirtual 137, 3) := by decide +kernel
theorem dX11_goer_130 : decode cX11_goer 130 = .ok (.goto 5, 3) := by decide +kernel
theorem dX11_goer_133 : decode cX11_goer 133 = .ok (.bipush (-9), 2) := by decide +kernel
theorem dX11_goer_135 : decode cX11_goer 135 = .ok (.ireturn, 1) := by decide +kernel
theorem dX11_goer_136 : decode cX11_goer 136 = .ok (.aload_n 0, 1) := by decide +kernel
theorem dX11_goer_137 : decode cX11_goer 137 = .ok (.iload_n 1, 1) := by decide +kernel
theorem dX11_goer_138 : decode cX11_goer 138 = .ok (.invokevirtual 140, 3) := by decide +kernel
theorem dX11_goer_141 : decode cX11_goer 141 = .ok (.invokestatic 143, 3) := by decide +kernel
theorem dX11_goer_144 : decode cX11_goer 144 = .ok (.ireturn, 1) := by decide +kernel
theorem dX11_goer_145 : decode cX11_goer 145 = .ok (.iconst (-1), 1) := by decide +kernel
theorem dX11_goer_146 : decode cX11_goer 146 = .ok (.ireturn, 1) := by decide +kernel
theorem dX11_room_0 : decode cX11_room 0 = .ok (.iload_n 1, 1) := by decide +kernel
theorem dX11_room_1 : decode cX11_room 1 = .ok (.ifCond .lt 14, 3) := by decide +kernel
theorem dX11_room_4 : decode cX11_room 4 = .ok (.iload_n 1, 1) := by decide +kernel
theorem dX11_room_5 : decode cX11_room 5 = .ok (.aload_n 0, 1) := by decide +kernel
theorem dX11_room_6 : decode cX11_room 6 = .ok (.getfield 19, 3) := by decide +kernel
theorem dX11_room_9 : decode cX11_room 9 = .ok (.getfield 146, 3) := by decide +kernel
theorem dX11_room_12 : decode cX11_room 12 = .ok (.if_icmp .lt 5, 3) := by decide +kernel
theorem dX11_room_15 : decode cX11_room 15 = .ok (.iconst (-1), 1) := by decide +kernel
theorem dX11_room_16 : decode cX11_room 16 = .ok (.ireturn, 1) := by decide +kernel
theorem dX11_room_17 : decode cX11_room 17 = .ok (.iload_n 2, 1) := by decide +kernel
theorem dX11_room_18 : decode cX11_room 18 = .ok (.lookupswitch 44 #[(0, 26), (1, 35)], 26) := by decide +kernel
theorem dX11_room_44 : decode cX11_room 44 = .ok (.aload_n 0, 1) := by decide +kernel
theorem dX11_room_45 : decode cX11_room 45 = .ok (.getfield 31, 3) := by decide +kernel
theorem dX11_room_48 : decode cX11_room 48 = .ok (.iload_n 1, 1) := by decide +kernel
theorem dX11_room_49 : decode cX11_room 49 = .ok (.invokevirtual 149, 3) := by decide +kernel
theorem dX11_room_52 : decode cX11_room 52 = .ok (.ireturn, 1) := by decide +kernel
theorem dX11_room_53 : decode cX11_room 53 = .ok (.aload_n 0, 1) := by decide +kernel
theorem dX11_room_54 : decode cX11_room 54 = .ok (.getfield 31, 3) := by decide +kernel
theorem dX11_room_57 : decode cX11_room 57 = .ok (.iload_n 1, 1) := by decide +kernel
theorem dX11_room_58 : decode cX11_room 58 = .ok (.invokevirtual 152, 3) := by decide +kernel
theorem dX11_room_61 : decode cX11_room 61 = .ok (.ireturn, 1) := by decide +kernel
theorem dX11_room_62 : decode cX11_room 62 = .ok (.iconst (-1), 1) := by decide +kernel
theorem dX11_room_63 : decode cX11_room 63 = .ok (.ireturn, 1) := by decide +kernel
theorem dX11_now_0 : decode cX11_now 0 = .ok (.iload_n 1, 1) := by decide +kernel
theorem dX11_now_1 : decode cX11_now 1 = .ok (.tableswitch 113 0 7 #[47, 55, 63, 71, 80, 89, 97, 105], 47) := by decide +kernel
theorem dX11_now_48 : decode cX11_now 48 = .ok (.aload_n 0, 1) := by decide +kernel
theorem dX11_now_49 : decode cX11_now 49 = .ok (.getfield 31, 3) := by decide +kernel
theorem dX11_now_52 : decode cX11_now 52 = .ok (.getfield 155, 3) := by decide +kernel
theorem dX11_now_55 : decode cX11_now 55 = .ok (.ireturn, 1) := by decide +kernel
theorem dX11_now_56 : decode cX11_now 56 = .ok (.aload_n 0, 1) := by decide +kernel
theorem dX11_now_57 : decode cX11_now 57 = .ok (.getfield 31, 3) := by decide +kernel
theorem dX11_now_60 : decode cX11_now 60 = .ok (.invokevirtual 158, 3) := by decide +kernel
theorem dX11_now_63 : decode cX11_now 63 = .ok (.ireturn, 1) := by decide +kernel
theorem dX11_now_64 : decode cX11_now 64 = .ok (.aload_n 0, 1) := by decide +kernel
theorem dX11_now_65 : decode cX11_now 65 = .ok (.getfield 31, 3) := by decide +kernel
theorem dX11_now_68 : decode cX11_now 68 = .ok (.invokevirtual 162, 3) := by decide +kernel
